def f_Fate_draw (s : px_Z) (x1 : Int) : Option (Int × px_Z) := if (x1) ≤ (0) then some ((0, px_up s 7 0 (px_wr ((px_wr ((s 7 0) * 1664525)) + 1013904223)))) else (if (x1) = 0 then none else some (((px_ush (((px_up s 7 0 (px_wr ((px_wr ((s 7 0) * 1664525)) + 1013904223))) 7 0)) (8)).tmod x1, px_up s 7 0 (px_wr ((px_wr ((s 7 0) * 1664525)) + 1013904223)))))
set_option maxHeartbeats 4000000 in
set_option maxRecDepth 100000 in
theorem c_Fate_draw {sc : List Int} {d : Nat} {s : px_Z} {x1 : Int} {out : Int × px_Z} (h : f_Fate_draw s x1 = some out) : px_D sc (d + 0) 2 0 [(0, .inr (.inr 7)), (1, .inl (x1))] [] (px_G1, s) (px_Qi out) := by
  unfold f_Fate_draw at h
  refine px_D_st 9 (ip1 := 9) (ls1 := [(0, .inr (.inr 7)), (1, .inl (x1))]) (st1 := [.inl (x1)]) (h1 := (px_G1, px_up s 7 0 (px_wr ((px_wr ((s 7 0) * 1664525)) + 1013904223)))) rfl ?_
  refine px_D_ifc rfl (fun hc => ?_) (fun hc => ?_)
  · have hc1 : (x1) ≤ (0) := of_decide_eq_true hc
    rw [if_pos hc1] at h
    refine px_D_st 1 (ip1 := 18) (ls1 := [(0, .inr (.inr 7)), (1, .inl (x1))]) (st1 := [.inl (0)]) (h1 := (px_G1, px_up s 7 0 (px_wr ((px_wr ((s 7 0) * 1664525)) + 1013904223)))) rfl ?_
    cases h
    exact px_D_iret rfl rfl ⟨rfl, rfl⟩
  · have hc1 : ¬ ((x1) ≤ (0)) := of_decide_eq_false hc
    rw [if_neg hc1] at h
    refine px_D_st 5 (ip1 := 15) (ls1 := [(0, .inr (.inr 7)), (1, .inl (x1))]) (st1 := [.inl (x1), .inl (px_ush (((px_up s 7 0 (px_wr ((px_wr ((s 7 0) * 1664525)) + 1013904223))) 7 0)) (8))]) (h1 := (px_G1, px_up s 7 0 (px_wr ((px_wr ((s 7 0) * 1664525)) + 1013904223)))) rfl ?_
    by_cases hc2 : (x1) = 0
    · rw [if_pos hc2] at h; cases h
    rw [if_neg hc2] at h
    refine px_D_rem rfl hc2 ?_
    refine px_D_st 1 (ip1 := 18) (ls1 := [(0, .inr (.inr 7)), (1, .inl (x1))]) (st1 := [.inl ((px_ush (((px_up s 7 0 (px_wr ((px_wr ((s 7 0) * 1664525)) + 1013904223))) 7 0)) (8)).tmod x1)]) (h1 := (px_G1, px_up s 7 0 (px_wr ((px_wr ((s 7 0) * 1664525)) + 1013904223)))) rfl ?_
    cases h
    exact px_D_iret rfl rfl ⟨rfl, rfl⟩

def f_World_giveNoThing (s : px_Z) : Option (px_Z) := some (px_up (px_up (px_up (px_up s 46 0 0) 46 1 0) 46 2 0) 46 5 0)
set_option maxHeartbeats 4000000 in
set_option maxRecDepth 100000 in
theorem c_World_giveNoThing {sc : List Int} {d : Nat} {s : px_Z} {out : px_Z} (h : f_World_giveNoThing s  = some out) : px_D sc (d + 0) 93 0 [(0, .inr (.inr 6))] [] (px_G1, s) (px_Qv out) := by
  unfold f_World_giveNoThing at h
  refine px_D_st 20 (ip1 := 20) (ls1 := [(0, .inr (.inr 6))]) (st1 := []) (h1 := (px_G1, px_up (px_up (px_up (px_up s 46 0 0) 46 1 0) 46 2 0) 46 5 0)) rfl ?_
  cases h
  exact px_D_vret rfl ⟨rfl, rfl⟩

def f_World_eaten (s : px_Z) (x1 : Int) (x2 : Int) (x3 : Int) : Option (Int × px_Z) := (f_World_giveNoThing s ).bind (fun q1 => (f_World_giveCommon q1 x1 x2 x3).bind (fun q2 => (f_Law_value_2 q2 267 1).bind (fun q3 => some (f_R_held q3.2 q3.1 0 99, q3.2))))
set_option maxHeartbeats 4000000 in
set_option maxRecDepth 100000 in
theorem c_World_eaten {sc : List Int} {d : Nat} {s : px_Z} {x1 : Int} {x2 : Int} {x3 : Int} {out : Int × px_Z} (h : f_World_eaten s x1 x2 x3 = some out) : px_D sc (d + 3) 101 0 [(0, .inr (.inr 6)), (1, .inl (x1)), (2, .inl (x2)), (3, .inl (x3))] [] (px_G1, s) (px_Qi out) := by
  unfold f_World_eaten at h
  refine px_D_st 1 (ip1 := 1) (ls1 := [(0, .inr (.inr 6)), (1, .inl (x1)), (2, .inl (x2)), (3, .inl (x3))]) (st1 := [.inr (.inr 6)]) (h1 := (px_G1, s)) rfl ?_
  refine px_D_call (as := [.inr (.inr 6)]) (rest := []) rfl rfl rfl rfl ?_
  obtain ⟨q1, hq1, h⟩ := Option.bind_eq_some_iff.mp h
  refine px_D_mono (c_World_giveNoThing (d := d + 2) hq1) ?_
  rintro _ _ ⟨rfl, rfl⟩
  show px_D sc (d + 3) 101 2 [(0, .inr (.inr 6)), (1, .inl (x1)), (2, .inl (x2)), (3, .inl (x3))] [] (px_G1, q1) _
  refine px_D_st 4 (ip1 := 6) (ls1 := [(0, .inr (.inr 6)), (1, .inl (x1)), (2, .inl (x2)), (3, .inl (x3))]) (st1 := [.inl (x3), .inl (x2), .inl (x1), .inr (.inr 6)]) (h1 := (px_G1, q1)) rfl ?_
  refine px_D_call (as := [.inr (.inr 6), .inl (x1), .inl (x2), .inl (x3)]) (rest := []) rfl rfl rfl rfl ?_
  obtain ⟨q2, hq2, h⟩ := Option.bind_eq_some_iff.mp h
  refine px_D_mono (c_World_giveCommon (d := d + 2) hq2) ?_
  rintro _ _ ⟨rfl, rfl⟩
  show px_D sc (d + 3) 101 7 [(0, .inr (.inr 6)), (1, .inl (x1)), (2, .inl (x2)), (3, .inl (x3))] [] (px_G1, q2) _
  refine px_D_st 6 (ip1 := 13) (ls1 := [(0, .inr (.inr 6)), (1, .inl (x1)), (2, .inl (x2)), (3, .inl (x3))]) (st1 := [.inl (1), .inr (.inr 46), .inl (267), .inr (.inr 21)]) (h1 := (px_G1, q2)) rfl ?_
  refine px_D_call (as := [.inr (.inr 21), .inl (267), .inr (.inr 46), .inl (1)]) (rest := []) rfl rfl rfl rfl ?_
  obtain ⟨q3, hq3, h⟩ := Option.bind_eq_some_iff.mp h
  refine px_D_mono (c_Law_value_2 (d := d + 0) hq3) ?_
  rintro _ _ ⟨rfl, rfl⟩
  show px_D sc (d + 3) 101 14 [(0, .inr (.inr 6)), (1, .inl (x1)), (2, .inl (x2)), (3, .inl (x3))] [.inl (q3.1)] (px_G1, q3.2) _
  refine px_D_st 2 (ip1 := 16) (ls1 := [(0, .inr (.inr 6)), (1, .inl (x1)), (2, .inl (x2)), (3, .inl (x3))]) (st1 := [.inl (99), .inl (0), .inl (q3.1)]) (h1 := (px_G1, q3.2)) rfl ?_
  refine px_D_call (as := [.inl (q3.1), .inl (0), .inl (99)]) (rest := []) rfl rfl rfl rfl ?_
  refine px_D_mono (c_R_held (d := d + 1) rfl) ?_
  rintro _ _ ⟨rfl, rfl⟩
  show px_D sc (d + 3) 101 17 [(0, .inr (.inr 6)), (1, .inl (x1)), (2, .inl (x2)), (3, .inl (x3))] [.inl (f_R_held q3.2 q3.1 0 99)] (px_G1, q3.2) _
  cases h
  exact px_D_iret rfl rfl ⟨rfl, rfl⟩

def f_World_liveOnCredit (s : px_Z) : Option (px_Z) := (f_World_eaten s (s 7 4) (s 7 3) (s 7 2)).bind (fun q1 => if ((px_up q1.2 7 2 (f_Math_max q1.2 0 (px_wr ((s 7 2) - q1.1)))) 7 2) ≤ (0) then some (px_up q1.2 7 2 (f_Math_max q1.2 0 (px_wr ((s 7 2) - q1.1)))) else (if ((px_up q1.2 7 2 (f_Math_max q1.2 0 (px_wr ((s 7 2) - q1.1)))) 6 3) ≤ (0) then some (px_up q1.2 7 2 (f_Math_max q1.2 0 (px_wr ((s 7 2) - q1.1)))) else (f_Fate_draw (px_up q1.2 7 2 (f_Math_max q1.2 0 (px_wr ((s 7 2) - q1.1)))) 100).bind (fun q4 => if ((px_up q1.2 7 2 (f_Math_max q1.2 0 (px_wr ((s 7 2) - q1.1)))) 6 3) ≤ (q4.1) then some q4.2 else (f_World_giveNoThing q4.2 ).bind (fun q6 => (f_World_giveCommon q6 (q6 7 4) (q6 7 3) (q6 7 2)).bind (fun q7 => (f_Law_value_2 q7 268 0).bind (fun q8 => some (px_up q8.2 7 2 (f_Math_min q8.2 9999 (px_wr ((q8.2 7 2) + (f_R_held q8.2 q8.1 0 99)))))))))))
set_option maxHeartbeats 4000000 in
set_option maxRecDepth 100000 in
theorem c_World_liveOnCredit {sc : List Int} {d : Nat} {s : px_Z} {out : px_Z} (h : f_World_liveOnCredit s  = some out) : px_D sc (d + 4) 102 0 [(0, .inr (.inr 6))] [] (px_G1, s) (px_Qv out) := by
  unfold f_World_liveOnCredit at h
  refine px_D_st 16 (ip1 := 16) (ls1 := [(0, .inr (.inr 6))]) (st1 := [.inl (s 7 2), .inl (s 7 3), .inl (s 7 4), .inr (.inr 6), .inl (s 7 2), .inl (0), .inr (.inr 7)]) (h1 := (px_G1, s)) rfl ?_
  refine px_D_call (as := [.inr (.inr 6), .inl (s 7 4), .inl (s 7 3), .inl (s 7 2)]) (rest := [.inl (s 7 2), .inl (0), .inr (.inr 7)]) rfl rfl rfl rfl ?_
  obtain ⟨q1, hq1, h⟩ := Option.bind_eq_some_iff.mp h
  refine px_D_mono (c_World_eaten (d := d + 0) hq1) ?_
  rintro _ _ ⟨rfl, rfl⟩
  show px_D sc (d + 4) 102 17 [(0, .inr (.inr 6))] [.inl (q1.1), .inl (s 7 2), .inl (0), .inr (.inr 7)] (px_G1, q1.2) _
  refine px_D_st 1 (ip1 := 18) (ls1 := [(0, .inr (.inr 6))]) (st1 := [.inl (px_wr ((s 7 2) - q1.1)), .inl (0), .inr (.inr 7)]) (h1 := (px_G1, q1.2)) rfl ?_
  refine px_D_call (as := [.inl (0), .inl (px_wr ((s 7 2) - q1.1))]) (rest := [.inr (.inr 7)]) rfl rfl rfl rfl ?_
  refine px_D_mono (c_Math_max (d := d + 3) rfl) ?_
  rintro _ _ ⟨rfl, rfl⟩
  show px_D sc (d + 4) 102 19 [(0, .inr (.inr 6))] [.inl (f_Math_max q1.2 0 (px_wr ((s 7 2) - q1.1))), .inr (.inr 7)] (px_G1, q1.2) _
  refine px_D_st 4 (ip1 := 23) (ls1 := [(0, .inr (.inr 6))]) (st1 := [.inl ((px_up q1.2 7 2 (f_Math_max q1.2 0 (px_wr ((s 7 2) - q1.1)))) 7 2)]) (h1 := (px_G1, px_up q1.2 7 2 (f_Math_max q1.2 0 (px_wr ((s 7 2) - q1.1))))) rfl ?_
  refine px_D_ifc rfl (fun hc => ?_) (fun hc => ?_)
  · have hc2 : ((px_up q1.2 7 2 (f_Math_max q1.2 0 (px_wr ((s 7 2) - q1.1)))) 7 2) ≤ (0) := of_decide_eq_true hc
    rw [if_pos hc2] at h
    cases h
    exact px_D_vret rfl ⟨rfl, rfl⟩
  · have hc2 : ¬ (((px_up q1.2 7 2 (f_Math_max q1.2 0 (px_wr ((s 7 2) - q1.1)))) 7 2) ≤ (0)) := of_decide_eq_false hc
    rw [if_neg hc2] at h
    refine px_D_st 2 (ip1 := 26) (ls1 := [(0, .inr (.inr 6))]) (st1 := [.inl ((px_up q1.2 7 2 (f_Math_max q1.2 0 (px_wr ((s 7 2) - q1.1)))) 6 3)]) (h1 := (px_G1, px_up q1.2 7 2 (f_Math_max q1.2 0 (px_wr ((s 7 2) - q1.1))))) rfl ?_
    refine px_D_ifc rfl (fun hc => ?_) (fun hc => ?_)
    · have hc3 : ((px_up q1.2 7 2 (f_Math_max q1.2 0 (px_wr ((s 7 2) - q1.1)))) 6 3) ≤ (0) := of_decide_eq_true hc
      rw [if_pos hc3] at h
      cases h
      exact px_D_vret rfl ⟨rfl, rfl⟩
    · have hc3 : ¬ (((px_up q1.2 7 2 (f_Math_max q1.2 0 (px_wr ((s 7 2) - q1.1)))) 6 3) ≤ (0)) := of_decide_eq_false hc
      rw [if_neg hc3] at h
      refine px_D_st 5 (ip1 := 32) (ls1 := [(0, .inr (.inr 6))]) (st1 := [.inl (100), .inr (.inr 7), .inl ((px_up q1.2 7 2 (f_Math_max q1.2 0 (px_wr ((s 7 2) - q1.1)))) 6 3)]) (h1 := (px_G1, px_up q1.2 7 2 (f_Math_max q1.2 0 (px_wr ((s 7 2) - q1.1))))) rfl ?_
      refine px_D_call (as := [.inr (.inr 7), .inl (100)]) (rest := [.inl ((px_up q1.2 7 2 (f_Math_max q1.2 0 (px_wr ((s 7 2) - q1.1)))) 6 3)]) rfl rfl rfl rfl ?_
      obtain ⟨q4, hq4, h⟩ := Option.bind_eq_some_iff.mp h
      refine px_D_mono (c_Fate_draw (d := d + 3) hq4) ?_
      rintro _ _ ⟨rfl, rfl⟩
      show px_D sc (d + 4) 102 33 [(0, .inr (.inr 6))] [.inl (q4.1), .inl ((px_up q1.2 7 2 (f_Math_max q1.2 0 (px_wr ((s 7 2) - q1.1)))) 6 3)] (px_G1, q4.2) _
      refine px_D_icmp rfl (fun hc => ?_) (fun hc => ?_)
      · have hc5 : ((px_up q1.2 7 2 (f_Math_max q1.2 0 (px_wr ((s 7 2) - q1.1)))) 6 3) ≤ (q4.1) := of_decide_eq_true hc
        rw [if_pos hc5] at h
        cases h
        exact px_D_vret rfl ⟨rfl, rfl⟩
      · have hc5 : ¬ (((px_up q1.2 7 2 (f_Math_max q1.2 0 (px_wr ((s 7 2) - q1.1)))) 6 3) ≤ (q4.1)) := of_decide_eq_false hc
        rw [if_neg hc5] at h
        refine px_D_st 1 (ip1 := 35) (ls1 := [(0, .inr (.inr 6))]) (st1 := [.inr (.inr 6)]) (h1 := (px_G1, q4.2)) rfl ?_
        refine px_D_call (as := [.inr (.inr 6)]) (rest := []) rfl rfl rfl rfl ?_
        obtain ⟨q6, hq6, h⟩ := Option.bind_eq_some_iff.mp h
        refine px_D_mono (c_World_giveNoThing (d := d + 3) hq6) ?_
        rintro _ _ ⟨rfl, rfl⟩
        show px_D sc (d + 4) 102 36 [(0, .inr (.inr 6))] [] (px_G1, q6) _
        refine px_D_st 10 (ip1 := 46) (ls1 := [(0, .inr (.inr 6))]) (st1 := [.inl (q6 7 2), .inl (q6 7 3), .inl (q6 7 4), .inr (.inr 6)]) (h1 := (px_G1, q6)) rfl ?_
        refine px_D_call (as := [.inr (.inr 6), .inl (q6 7 4), .inl (q6 7 3), .inl (q6 7 2)]) (rest := []) rfl rfl rfl rfl ?_
        obtain ⟨q7, hq7, h⟩ := Option.bind_eq_some_iff.mp h
        refine px_D_mono (c_World_giveCommon (d := d + 3) hq7) ?_
        rintro _ _ ⟨rfl, rfl⟩
        show px_D sc (d + 4) 102 47 [(0, .inr (.inr 6))] [] (px_G1, q7) _
        refine px_D_st 6 (ip1 := 53) (ls1 := [(0, .inr (.inr 6))]) (st1 := [.inl (0), .inr (.inr 46), .inl (268), .inr (.inr 21)]) (h1 := (px_G1, q7)) rfl ?_
        refine px_D_call (as := [.inr (.inr 21), .inl (268), .inr (.inr 46), .inl (0)]) (rest := []) rfl rfl rfl rfl ?_
        obtain ⟨q8, hq8, h⟩ := Option.bind_eq_some_iff.mp h
        refine px_D_mono (c_Law_value_2 (d := d + 1) hq8) ?_
        rintro _ _ ⟨rfl, rfl⟩
        show px_D sc (d + 4) 102 54 [(0, .inr (.inr 6))] [.inl (q8.1)] (px_G1, q8.2) _
        refine px_D_st 2 (ip1 := 56) (ls1 := [(0, .inr (.inr 6))]) (st1 := [.inl (99), .inl (0), .inl (q8.1)]) (h1 := (px_G1, q8.2)) rfl ?_
        refine px_D_call (as := [.inl (q8.1), .inl (0), .inl (99)]) (rest := []) rfl rfl rfl rfl ?_
        refine px_D_mono (c_R_held (d := d + 2) rfl) ?_
        rintro _ _ ⟨rfl, rfl⟩
        show px_D sc (d + 4) 102 57 [(0, .inr (.inr 6))] [.inl (f_R_held q8.2 q8.1 0 99)] (px_G1, q8.2) _
        refine px_D_st 9 (ip1 := 66) (ls1 := [(1, .inl (f_R_held q8.2 q8.1 0 99)), (0, .inr (.inr 6))]) (st1 := [.inl (px_wr ((q8.2 7 2) + (f_R_held q8.2 q8.1 0 99))), .inl (9999), .inr (.inr 7)]) (h1 := (px_G1, q8.2)) rfl ?_
        refine px_D_call (as := [.inl (9999), .inl (px_wr ((q8.2 7 2) + (f_R_held q8.2 q8.1 0 99)))]) (rest := [.inr (.inr 7)]) rfl rfl rfl rfl ?_
        refine px_D_mono (c_Math_min (d := d + 3) rfl) ?_
        rintro _ _ ⟨rfl, rfl⟩
        show px_D sc (d + 4) 102 67 [(1, .inl (f_R_held q8.2 q8.1 0 99)), (0, .inr (.inr 6))] [.inl (f_Math_min q8.2 9999 (px_wr ((q8.2 7 2) + (f_R_held q8.2 q8.1 0 99)))), .inr (.inr 7)] (px_G1, q8.2) _
        refine px_D_st 1 (ip1 := 68) (ls1 := [(1, .inl (f_R_held q8.2 q8.1 0 99)), (0, .inr (.inr 6))]) (st1 := []) (h1 := (px_G1, px_up q8.2 7 2 (f_Math_min q8.2 9999 (px_wr ((q8.2 7 2) + (f_R_held q8.2 q8.1 0 99)))))) rfl ?_
        cases h
        exact px_D_vret rfl ⟨rfl, rfl⟩

def l_World_wearAll_13  : Nat → px_Z → Int → Option (px_Z)
  | 0, _, _ => none
  | n + 1, s, x1 => if (s 6 1) ≤ (x1) then some s else (if 0 ≤ (x1) ∧ (x1) < 8 then if (s 9 x1.toNat) = (1) then l_World_wearAll_13  n s (px_wr (x1 + 1)) else (if 0 ≤ (x1) ∧ (x1) < 8 then if (s 9 x1.toNat) = (2) then (f_World_giveThing s x1 1).bind (fun q11 => (f_Law_value_2 q11 266 1).bind (fun q12 => if 0 ≤ (x1) ∧ (x1) < 8 then if 0 ≤ (x1) ∧ (x1) < 8 then l_World_wearAll_13  n (px_up q12.2 8 x1.toNat (f_Math_min q12.2 99 (px_wr ((q12.2 8 x1.toNat) + (f_R_held q12.2 q12.1 0 20))))) (px_wr (x1 + 1)) else none else none)) else (f_World_giveThing s x1 0).bind (fun q7 => (f_Law_value_2 q7 266 1).bind (fun q8 => if 0 ≤ (x1) ∧ (x1) < 8 then if 0 ≤ (x1) ∧ (x1) < 8 then l_World_wearAll_13  n (px_up q8.2 8 x1.toNat (f_Math_min q8.2 99 (px_wr ((q8.2 8 x1.toNat) + (f_R_held q8.2 q8.1 0 20))))) (px_wr (x1 + 1)) else none else none)) else none) else none)
set_option maxHeartbeats 4000000 in
set_option maxRecDepth 100000 in
theorem cl_World_wearAll_13 {sc : List Int} {d : Nat}  : ∀ (n : Nat) (s : px_Z) (x1 : Int) (out : px_Z), l_World_wearAll_13  n s x1 = some out → px_D sc (d + 3) 100 13 [(0, .inr (.inr 6)), (1, .inl (x1))] [] (px_G1, s) (px_Qv out) := by
  intro n
  induction n with
  | zero => intro s x1 out h; cases h
  | succ n ih =>
    intro s x1 out h
    rw [l_World_wearAll_13] at h
    refine px_D_st 3 (ip1 := 16) (ls1 := [(0, .inr (.inr 6)), (1, .inl (x1))]) (st1 := [.inl (s 6 1), .inl (x1)]) (h1 := (px_G1, s)) rfl ?_
    refine px_D_icmp rfl (fun hc => ?_) (fun hc => ?_)
    · have hc2 : (s 6 1) ≤ (x1) := of_decide_eq_true hc
      rw [if_pos hc2] at h
      cases h
      exact px_D_vret rfl ⟨rfl, rfl⟩
    · have hc2 : ¬ ((s 6 1) ≤ (x1)) := of_decide_eq_false hc
      rw [if_neg hc2] at h
      refine px_D_st 4 (ip1 := 21) (ls1 := [(0, .inr (.inr 6)), (1, .inl (x1))]) (st1 := [.inl (x1), .inr (.inr 9)]) (h1 := (px_G1, s)) rfl ?_
      by_cases hc3 : 0 ≤ (x1) ∧ (x1) < 8
      case neg => rw [if_neg hc3] at h; cases h
      rw [if_pos hc3] at h
      refine px_D_iald (k := 4) (n := 8) rfl rfl hc3 ?_
      refine px_D_st 1 (ip1 := 23) (ls1 := [(0, .inr (.inr 6)), (1, .inl (x1))]) (st1 := [.inl (1), .inl (s 9 x1.toNat)]) (h1 := (px_G1, s)) rfl ?_
      refine px_D_icmp rfl (fun hc => ?_) (fun hc => ?_)
      · have hc4 : (s 9 x1.toNat) = (1) := of_decide_eq_true hc
        rw [if_pos hc4] at h
        refine px_D_st 2 (ip1 := 13) (ls1 := [(1, .inl (px_wr (x1 + 1))), (0, .inr (.inr 6))]) (st1 := []) (h1 := (px_G1, s)) rfl ?_
        refine px_D_ls [(0, .inr (.inr 6)), (1, .inl (px_wr (x1 + 1)))] rfl rfl (List.forall_mem_cons.mpr ⟨rfl, List.forall_mem_cons.mpr ⟨rfl, fun _ h => absurd h List.not_mem_nil⟩⟩) ?_
        exact ih _ _ _ h
      · have hc4 : ¬ ((s 9 x1.toNat) = (1)) := of_decide_eq_false hc
        rw [if_neg hc4] at h
        refine px_D_st 6 (ip1 := 30) (ls1 := [(0, .inr (.inr 6)), (1, .inl (x1))]) (st1 := [.inl (x1), .inr (.inr 9), .inl (x1), .inr (.inr 6)]) (h1 := (px_G1, s)) rfl ?_
        by_cases hc5 : 0 ≤ (x1) ∧ (x1) < 8
        case neg => rw [if_neg hc5] at h; cases h
        rw [if_pos hc5] at h
        refine px_D_iald (k := 4) (n := 8) rfl rfl hc5 ?_
        refine px_D_st 1 (ip1 := 32) (ls1 := [(0, .inr (.inr 6)), (1, .inl (x1))]) (st1 := [.inl (2), .inl (s 9 x1.toNat), .inl (x1), .inr (.inr 6)]) (h1 := (px_G1, s)) rfl ?_
        refine px_D_icmp rfl (fun hc => ?_) (fun hc => ?_)
        · have hc6 : ¬ ((s 9 x1.toNat) = (2)) := of_decide_eq_true hc
          rw [if_neg hc6] at h
          refine px_D_st 1 (ip1 := 36) (ls1 := [(0, .inr (.inr 6)), (1, .inl (x1))]) (st1 := [.inl (0), .inl (x1), .inr (.inr 6)]) (h1 := (px_G1, s)) rfl ?_
          refine px_D_call (as := [.inr (.inr 6), .inl (x1), .inl (0)]) (rest := []) rfl rfl rfl rfl ?_
          obtain ⟨q7, hq7, h⟩ := Option.bind_eq_some_iff.mp h
          refine px_D_mono (c_World_giveThing (d := d + 2) hq7) ?_
          rintro _ _ ⟨rfl, rfl⟩
          show px_D sc (d + 3) 100 37 [(0, .inr (.inr 6)), (1, .inl (x1))] [] (px_G1, q7) _
          refine px_D_st 6 (ip1 := 43) (ls1 := [(0, .inr (.inr 6)), (1, .inl (x1))]) (st1 := [.inl (1), .inr (.inr 46), .inl (266), .inr (.inr 21)]) (h1 := (px_G1, q7)) rfl ?_
          refine px_D_call (as := [.inr (.inr 21), .inl (266), .inr (.inr 46), .inl (1)]) (rest := []) rfl rfl rfl rfl ?_
          obtain ⟨q8, hq8, h⟩ := Option.bind_eq_some_iff.mp h
          refine px_D_mono (c_Law_value_2 (d := d + 0) hq8) ?_
          rintro _ _ ⟨rfl, rfl⟩
          show px_D sc (d + 3) 100 44 [(0, .inr (.inr 6)), (1, .inl (x1))] [.inl (q8.1)] (px_G1, q8.2) _
          refine px_D_st 2 (ip1 := 46) (ls1 := [(0, .inr (.inr 6)), (1, .inl (x1))]) (st1 := [.inl (20), .inl (0), .inl (q8.1)]) (h1 := (px_G1, q8.2)) rfl ?_
          refine px_D_call (as := [.inl (q8.1), .inl (0), .inl (20)]) (rest := []) rfl rfl rfl rfl ?_
          refine px_D_mono (c_R_held (d := d + 1) rfl) ?_
          rintro _ _ ⟨rfl, rfl⟩
          show px_D sc (d + 3) 100 47 [(0, .inr (.inr 6)), (1, .inl (x1))] [.inl (f_R_held q8.2 q8.1 0 20)] (px_G1, q8.2) _
          refine px_D_st 10 (ip1 := 57) (ls1 := [(2, .inl (f_R_held q8.2 q8.1 0 20)), (0, .inr (.inr 6)), (1, .inl (x1))]) (st1 := [.inl (x1), .inr (.inr 8), .inl (99), .inl (x1), .inr (.inr 8)]) (h1 := (px_G1, q8.2)) rfl ?_
          by_cases hc9 : 0 ≤ (x1) ∧ (x1) < 8
          case neg => rw [if_neg hc9] at h; cases h
          rw [if_pos hc9] at h
          refine px_D_iald (k := 3) (n := 8) rfl rfl hc9 ?_
          refine px_D_st 2 (ip1 := 60) (ls1 := [(2, .inl (f_R_held q8.2 q8.1 0 20)), (0, .inr (.inr 6)), (1, .inl (x1))]) (st1 := [.inl (px_wr ((q8.2 8 x1.toNat) + (f_R_held q8.2 q8.1 0 20))), .inl (99), .inl (x1), .inr (.inr 8)]) (h1 := (px_G1, q8.2)) rfl ?_
          refine px_D_call (as := [.inl (99), .inl (px_wr ((q8.2 8 x1.toNat) + (f_R_held q8.2 q8.1 0 20)))]) (rest := [.inl (x1), .inr (.inr 8)]) rfl rfl rfl rfl ?_
          refine px_D_mono (c_Math_min (d := d + 2) rfl) ?_
          rintro _ _ ⟨rfl, rfl⟩
          show px_D sc (d + 3) 100 61 [(2, .inl (f_R_held q8.2 q8.1 0 20)), (0, .inr (.inr 6)), (1, .inl (x1))] [.inl (f_Math_min q8.2 99 (px_wr ((q8.2 8 x1.toNat) + (f_R_held q8.2 q8.1 0 20)))), .inl (x1), .inr (.inr 8)] (px_G1, q8.2) _
          by_cases hc10 : 0 ≤ (x1) ∧ (x1) < 8
          case neg => rw [if_neg hc10] at h; cases h
          rw [if_pos hc10] at h
          refine px_D_iast (k := 3) (n := 8) rfl rfl hc10 ?_
          refine px_D_st 2 (ip1 := 13) (ls1 := [(1, .inl (px_wr (x1 + 1))), (2, .inl (f_R_held q8.2 q8.1 0 20)), (0, .inr (.inr 6))]) (st1 := []) (h1 := (px_G1, px_up q8.2 8 x1.toNat (f_Math_min q8.2 99 (px_wr ((q8.2 8 x1.toNat) + (f_R_held q8.2 q8.1 0 20)))))) rfl ?_
          refine px_D_ls [(0, .inr (.inr 6)), (1, .inl (px_wr (x1 + 1)))] rfl rfl (List.forall_mem_cons.mpr ⟨rfl, List.forall_mem_cons.mpr ⟨rfl, fun _ h => absurd h List.not_mem_nil⟩⟩) ?_
          exact ih _ _ _ h
        · have hc6 : (s 9 x1.toNat) = (2) := Decidable.of_not_not (of_decide_eq_false hc)
          rw [if_pos hc6] at h
          refine px_D_st 2 (ip1 := 36) (ls1 := [(0, .inr (.inr 6)), (1, .inl (x1))]) (st1 := [.inl (1), .inl (x1), .inr (.inr 6)]) (h1 := (px_G1, s)) rfl ?_
          refine px_D_call (as := [.inr (.inr 6), .inl (x1), .inl (1)]) (rest := []) rfl rfl rfl rfl ?_
          obtain ⟨q11, hq11, h⟩ := Option.bind_eq_some_iff.mp h
          refine px_D_mono (c_World_giveThing (d := d + 2) hq11) ?_
          rintro _ _ ⟨rfl, rfl⟩
          show px_D sc (d + 3) 100 37 [(0, .inr (.inr 6)), (1, .inl (x1))] [] (px_G1, q11) _
          refine px_D_st 6 (ip1 := 43) (ls1 := [(0, .inr (.inr 6)), (1, .inl (x1))]) (st1 := [.inl (1), .inr (.inr 46), .inl (266), .inr (.inr 21)]) (h1 := (px_G1, q11)) rfl ?_
          refine px_D_call (as := [.inr (.inr 21), .inl (266), .inr (.inr 46), .inl (1)]) (rest := []) rfl rfl rfl rfl ?_
          obtain ⟨q12, hq12, h⟩ := Option.bind_eq_some_iff.mp h
          refine px_D_mono (c_Law_value_2 (d := d + 0) hq12) ?_
          rintro _ _ ⟨rfl, rfl⟩
          show px_D sc (d + 3) 100 44 [(0, .inr (.inr 6)), (1, .inl (x1))] [.inl (q12.1)] (px_G1, q12.2) _
          refine px_D_st 2 (ip1 := 46) (ls1 := [(0, .inr (.inr 6)), (1, .inl (x1))]) (st1 := [.inl (20), .inl (0), .inl (q12.1)]) (h1 := (px_G1, q12.2)) rfl ?_
          refine px_D_call (as := [.inl (q12.1), .inl (0), .inl (20)]) (rest := []) rfl rfl rfl rfl ?_
          refine px_D_mono (c_R_held (d := d + 1) rfl) ?_
          rintro _ _ ⟨rfl, rfl⟩
          show px_D sc (d + 3) 100 47 [(0, .inr (.inr 6)), (1, .inl (x1))] [.inl (f_R_held q12.2 q12.1 0 20)] (px_G1, q12.2) _
          refine px_D_st 10 (ip1 := 57) (ls1 := [(2, .inl (f_R_held q12.2 q12.1 0 20)), (0, .inr (.inr 6)), (1, .inl (x1))]) (st1 := [.inl (x1), .inr (.inr 8), .inl (99), .inl (x1), .inr (.inr 8)]) (h1 := (px_G1, q12.2)) rfl ?_
          by_cases hc13 : 0 ≤ (x1) ∧ (x1) < 8
          case neg => rw [if_neg hc13] at h; cases h
          rw [if_pos hc13] at h
          refine px_D_iald (k := 3) (n := 8) rfl rfl hc13 ?_
          refine px_D_st 2 (ip1 := 60) (ls1 := [(2, .inl (f_R_held q12.2 q12.1 0 20)), (0, .inr (.inr 6)), (1, .inl (x1))]) (st1 := [.inl (px_wr ((q12.2 8 x1.toNat) + (f_R_held q12.2 q12.1 0 20))), .inl (99), .inl (x1), .inr (.inr 8)]) (h1 := (px_G1, q12.2)) rfl ?_
          refine px_D_call (as := [.inl (99), .inl (px_wr ((q12.2 8 x1.toNat) + (f_R_held q12.2 q12.1 0 20)))]) (rest := [.inl (x1), .inr (.inr 8)]) rfl rfl rfl rfl ?_
          refine px_D_mono (c_Math_min (d := d + 2) rfl) ?_
          rintro _ _ ⟨rfl, rfl⟩
          show px_D sc (d + 3) 100 61 [(2, .inl (f_R_held q12.2 q12.1 0 20)), (0, .inr (.inr 6)), (1, .inl (x1))] [.inl (f_Math_min q12.2 99 (px_wr ((q12.2 8 x1.toNat) + (f_R_held q12.2 q12.1 0 20)))), .inl (x1), .inr (.inr 8)] (px_G1, q12.2) _
          by_cases hc14 : 0 ≤ (x1) ∧ (x1) < 8
          case neg => rw [if_neg hc14] at h; cases h
          rw [if_pos hc14] at h
          refine px_D_iast (k := 3) (n := 8) rfl rfl hc14 ?_
          refine px_D_st 2 (ip1 := 13) (ls1 := [(1, .inl (px_wr (x1 + 1))), (2, .inl (f_R_held q12.2 q12.1 0 20)), (0, .inr (.inr 6))]) (st1 := []) (h1 := (px_G1, px_up q12.2 8 x1.toNat (f_Math_min q12.2 99 (px_wr ((q12.2 8 x1.toNat) + (f_R_held q12.2 q12.1 0 20)))))) rfl ?_
          refine px_D_ls [(0, .inr (.inr 6)), (1, .inl (px_wr (x1 + 1)))] rfl rfl (List.forall_mem_cons.mpr ⟨rfl, List.forall_mem_cons.mpr ⟨rfl, fun _ h => absurd h List.not_mem_nil⟩⟩) ?_
          exact ih _ _ _ h
def f_World_wearAll (s : px_Z) : Option (px_Z) := (f_World_giveCommon s (s 7 4) (s 7 3) (s 7 2)).bind (fun q1 => l_World_wearAll_13  px_big q1 0)
set_option maxHeartbeats 4000000 in
set_option maxRecDepth 100000 in
theorem c_World_wearAll {sc : List Int} {d : Nat} {s : px_Z} {out : px_Z} (h : f_World_wearAll s  = some out) : px_D sc (d + 3) 100 0 [(0, .inr (.inr 6))] [] (px_G1, s) (px_Qv out) := by
  unfold f_World_wearAll at h
  refine px_D_st 10 (ip1 := 10) (ls1 := [(0, .inr (.inr 6))]) (st1 := [.inl (s 7 2), .inl (s 7 3), .inl (s 7 4), .inr (.inr 6)]) (h1 := (px_G1, s)) rfl ?_
  refine px_D_call (as := [.inr (.inr 6), .inl (s 7 4), .inl (s 7 3), .inl (s 7 2)]) (rest := []) rfl rfl rfl rfl ?_
  obtain ⟨q1, hq1, h⟩ := Option.bind_eq_some_iff.mp h
  refine px_D_mono (c_World_giveCommon (d := d + 2) hq1) ?_
  rintro _ _ ⟨rfl, rfl⟩
  show px_D sc (d + 3) 100 11 [(0, .inr (.inr 6))] [] (px_G1, q1) _
  refine px_D_st 2 (ip1 := 13) (ls1 := [(1, .inl (0)), (0, .inr (.inr 6))]) (st1 := []) (h1 := (px_G1, q1)) rfl ?_
  refine px_D_ls [(0, .inr (.inr 6)), (1, .inl (0))] rfl rfl (List.forall_mem_cons.mpr ⟨rfl, List.forall_mem_cons.mpr ⟨rfl, fun _ h => absurd h List.not_mem_nil⟩⟩) ?_
  refine cl_World_wearAll_13  px_big _ _ _ h

def l_World_rivalComes_14 (k26 : px_Z → Int → Option (Int × px_Z)) : Nat → px_Z → Int → Option (Int × px_Z)
  | 0, _, _ => none
  | n + 1, s, x1 => if (px_wr ((s 6 1) - 1)) ≤ (x1) then some (0, s) else (if 0 ≤ (x1) ∧ (x1) < 8 then if (s 9 x1.toNat) = (0) then k26 s x1 else l_World_rivalComes_14 k26 n s (px_wr (x1 + 1)) else none)
set_option maxHeartbeats 4000000 in
set_option maxRecDepth 100000 in
theorem cl_World_rivalComes_14 {sc : List Int} {d : Nat} {k26 : px_Z → Int → Option (Int × px_Z)}  (hk26 : ∀ (s : px_Z) (y1 : Int) (out : Int × px_Z), k26 s y1 = some out → px_D sc (d + 1) 103 26 [(0, .inr (.inr 6)), (1, .inl (y1))] [] (px_G1, s) (px_Qi out)) : ∀ (n : Nat) (s : px_Z) (x1 : Int) (out : Int × px_Z), l_World_rivalComes_14 k26 n s x1 = some out → px_D sc (d + 1) 103 14 [(0, .inr (.inr 6)), (1, .inl (x1))] [] (px_G1, s) (px_Qi out) := by
  intro n
  induction n with
  | zero => intro s x1 out h; cases h
  | succ n ih =>
    intro s x1 out h
    rw [l_World_rivalComes_14] at h
    refine px_D_st 5 (ip1 := 19) (ls1 := [(0, .inr (.inr 6)), (1, .inl (x1))]) (st1 := [.inl (px_wr ((s 6 1) - 1)), .inl (x1)]) (h1 := (px_G1, s)) rfl ?_
    refine px_D_icmp rfl (fun hc => ?_) (fun hc => ?_)
    · have hc4 : (px_wr ((s 6 1) - 1)) ≤ (x1) := of_decide_eq_true hc
      rw [if_pos hc4] at h
      refine px_D_st 1 (ip1 := 43) (ls1 := [(0, .inr (.inr 6)), (1, .inl (x1))]) (st1 := [.inl (0)]) (h1 := (px_G1, s)) rfl ?_
      cases h
      exact px_D_iret rfl rfl ⟨rfl, rfl⟩
    · have hc4 : ¬ ((px_wr ((s 6 1) - 1)) ≤ (x1)) := of_decide_eq_false hc
      rw [if_neg hc4] at h
      refine px_D_st 4 (ip1 := 24) (ls1 := [(0, .inr (.inr 6)), (1, .inl (x1))]) (st1 := [.inl (x1), .inr (.inr 9)]) (h1 := (px_G1, s)) rfl ?_
      by_cases hc5 : 0 ≤ (x1) ∧ (x1) < 8
      case neg => rw [if_neg hc5] at h; cases h
      rw [if_pos hc5] at h
      refine px_D_iald (k := 4) (n := 8) rfl rfl hc5 ?_
      refine px_D_ifc rfl (fun hc => ?_) (fun hc => ?_)
      · have hc6 : ¬ ((s 9 x1.toNat) = (0)) := of_decide_eq_true hc
        rw [if_neg hc6] at h
        refine px_D_st 2 (ip1 := 14) (ls1 := [(1, .inl (px_wr (x1 + 1))), (0, .inr (.inr 6))]) (st1 := []) (h1 := (px_G1, s)) rfl ?_
        refine px_D_ls [(0, .inr (.inr 6)), (1, .inl (px_wr (x1 + 1)))] rfl rfl (List.forall_mem_cons.mpr ⟨rfl, List.forall_mem_cons.mpr ⟨rfl, fun _ h => absurd h List.not_mem_nil⟩⟩) ?_
        exact ih _ _ _ h
      · have hc6 : (s 9 x1.toNat) = (0) := Decidable.of_not_not (of_decide_eq_false hc)
        rw [if_pos hc6] at h
        refine px_D_ls [(0, .inr (.inr 6)), (1, .inl (x1))] rfl rfl (List.forall_mem_cons.mpr ⟨rfl, List.forall_mem_cons.mpr ⟨rfl, fun _ h => absurd h List.not_mem_nil⟩⟩) ?_
        exact hk26 _ _ _ h
def f_World_rivalComes (s : px_Z) : Option (Int × px_Z) := if (s 6 2) = (0) then some (0, s) else (f_Fate_draw s 1000).bind (fun q2 => if (q2.1) < (q2.2 6 2) then l_World_rivalComes_14 (fun s x1 => if 0 ≤ (x1) ∧ (x1) < 8 then (f_World_writeLine (px_up s 9 x1.toNat 2) 2 x1 0 (-1)).bind (fun q8 => some (1, q8)) else none) px_big q2.2 0 else some (0, q2.2))
set_option maxHeartbeats 4000000 in
set_option maxRecDepth 100000 in
theorem c_World_rivalComes {sc : List Int} {d : Nat} {s : px_Z} {out : Int × px_Z} (h : f_World_rivalComes s  = some out) : px_D sc (d + 1) 103 0 [(0, .inr (.inr 6))] [] (px_G1, s) (px_Qi out) := by
  unfold f_World_rivalComes at h
  refine px_D_st 2 (ip1 := 2) (ls1 := [(0, .inr (.inr 6))]) (st1 := [.inl (s 6 2)]) (h1 := (px_G1, s)) rfl ?_
  refine px_D_ifc rfl (fun hc => ?_) (fun hc => ?_)
  · have hc1 : (s 6 2) = (0) := of_decide_eq_true hc
    rw [if_pos hc1] at h
    refine px_D_st 1 (ip1 := 11) (ls1 := [(0, .inr (.inr 6))]) (st1 := [.inl (0)]) (h1 := (px_G1, s)) rfl ?_
    cases h
    exact px_D_iret rfl rfl ⟨rfl, rfl⟩
  · have hc1 : ¬ ((s 6 2) = (0)) := of_decide_eq_false hc
    rw [if_neg hc1] at h
    refine px_D_st 3 (ip1 := 6) (ls1 := [(0, .inr (.inr 6))]) (st1 := [.inl (1000), .inr (.inr 7)]) (h1 := (px_G1, s)) rfl ?_
    refine px_D_call (as := [.inr (.inr 7), .inl (1000)]) (rest := []) rfl rfl rfl rfl ?_
    obtain ⟨q2, hq2, h⟩ := Option.bind_eq_some_iff.mp h
    refine px_D_mono (c_Fate_draw (d := d + 0) hq2) ?_
    rintro _ _ ⟨rfl, rfl⟩
    show px_D sc (d + 1) 103 7 [(0, .inr (.inr 6))] [.inl (q2.1)] (px_G1, q2.2) _
    refine px_D_st 2 (ip1 := 9) (ls1 := [(0, .inr (.inr 6))]) (st1 := [.inl (q2.2 6 2), .inl (q2.1)]) (h1 := (px_G1, q2.2)) rfl ?_
    refine px_D_icmp rfl (fun hc => ?_) (fun hc => ?_)
    · have hc3 : (q2.1) < (q2.2 6 2) := of_decide_eq_true hc
      rw [if_pos hc3] at h
      refine px_D_st 2 (ip1 := 14) (ls1 := [(1, .inl (0)), (0, .inr (.inr 6))]) (st1 := []) (h1 := (px_G1, q2.2)) rfl ?_
      refine px_D_ls [(0, .inr (.inr 6)), (1, .inl (0))] rfl rfl (List.forall_mem_cons.mpr ⟨rfl, List.forall_mem_cons.mpr ⟨rfl, fun _ h => absurd h List.not_mem_nil⟩⟩) ?_
      refine cl_World_rivalComes_14 ?_ px_big _ _ _ h
      · intro s x1 out h
        refine px_D_st 5 (ip1 := 31) (ls1 := [(0, .inr (.inr 6)), (1, .inl (x1))]) (st1 := [.inl (2), .inl (x1), .inr (.inr 9)]) (h1 := (px_G1, s)) rfl ?_
        by_cases hc7 : 0 ≤ (x1) ∧ (x1) < 8
        case neg => rw [if_neg hc7] at h; cases h
        rw [if_pos hc7] at h
        refine px_D_iast (k := 4) (n := 8) rfl rfl hc7 ?_
        refine px_D_st 5 (ip1 := 37) (ls1 := [(0, .inr (.inr 6)), (1, .inl (x1))]) (st1 := [.inl ((-1)), .inl (0), .inl (x1), .inl (2), .inr (.inr 6)]) (h1 := (px_G1, px_up s 9 x1.toNat 2)) rfl ?_
        refine px_D_call (as := [.inr (.inr 6), .inl (2), .inl (x1), .inl (0), .inl ((-1))]) (rest := []) rfl rfl rfl rfl ?_
        obtain ⟨q8, hq8, h⟩ := Option.bind_eq_some_iff.mp h
        refine px_D_mono (c_World_writeLine (d := d + 0) hq8) ?_
        rintro _ _ ⟨rfl, rfl⟩
        show px_D sc (d + 1) 103 38 [(0, .inr (.inr 6)), (1, .inl (x1))] [] (px_G1, q8) _
        refine px_D_st 1 (ip1 := 39) (ls1 := [(0, .inr (.inr 6)), (1, .inl (x1))]) (st1 := [.inl (1)]) (h1 := (px_G1, q8)) rfl ?_
        cases h
        exact px_D_iret rfl rfl ⟨rfl, rfl⟩
    · have hc3 : ¬ ((q2.1) < (q2.2 6 2)) := of_decide_eq_false hc
      rw [if_neg hc3] at h
      refine px_D_st 1 (ip1 := 11) (ls1 := [(0, .inr (.inr 6))]) (st1 := [.inl (0)]) (h1 := (px_G1, q2.2)) rfl ?_
      cases h
      exact px_D_iret rfl rfl ⟨rfl, rfl⟩

def f_World_passWeek (s : px_Z) : Option (Int × px_Z) := (f_World_wearAll s ).bind (fun q1 => (f_World_liveOnCredit q1 ).bind (fun q2 => (f_World_rivalComes q2 ).bind (fun q3 => if (q3.1) = 0 ∨ (q3.1) = 1 then some ((q3.1, px_up (px_up (px_up q3.2 7 3 (f_Math_max q3.2 0 (px_wr ((q3.2 7 3) - 1)))) 7 4 (px_wr (((px_up q3.2 7 3 (f_Math_max q3.2 0 (px_wr ((q3.2 7 3) - 1)))) 7 4) + 1))) 7 6 0)) else none)))
set_option maxHeartbeats 4000000 in
set_option maxRecDepth 100000 in
theorem c_World_passWeek {sc : List Int} {d : Nat} {s : px_Z} {out : Int × px_Z} (h : f_World_passWeek s  = some out) : px_D sc (d + 5) 99 0 [(0, .inr (.inr 6))] [] (px_G1, s) (px_Qi out) := by
  unfold f_World_passWeek at h
  refine px_D_st 1 (ip1 := 1) (ls1 := [(0, .inr (.inr 6))]) (st1 := [.inr (.inr 6)]) (h1 := (px_G1, s)) rfl ?_
  refine px_D_call (as := [.inr (.inr 6)]) (rest := []) rfl rfl rfl rfl ?_
  obtain ⟨q1, hq1, h⟩ := Option.bind_eq_some_iff.mp h
  refine px_D_mono (c_World_wearAll (d := d + 1) hq1) ?_
  rintro _ _ ⟨rfl, rfl⟩
  show px_D sc (d + 5) 99 2 [(0, .inr (.inr 6))] [] (px_G1, q1) _
  refine px_D_st 1 (ip1 := 3) (ls1 := [(0, .inr (.inr 6))]) (st1 := [.inr (.inr 6)]) (h1 := (px_G1, q1)) rfl ?_
  refine px_D_call (as := [.inr (.inr 6)]) (rest := []) rfl rfl rfl rfl ?_
  obtain ⟨q2, hq2, h⟩ := Option.bind_eq_some_iff.mp h
  refine px_D_mono (c_World_liveOnCredit (d := d + 0) hq2) ?_
  rintro _ _ ⟨rfl, rfl⟩
  show px_D sc (d + 5) 99 4 [(0, .inr (.inr 6))] [] (px_G1, q2) _
  refine px_D_st 1 (ip1 := 5) (ls1 := [(0, .inr (.inr 6))]) (st1 := [.inr (.inr 6)]) (h1 := (px_G1, q2)) rfl ?_
  refine px_D_call (as := [.inr (.inr 6)]) (rest := []) rfl rfl rfl rfl ?_
  obtain ⟨q3, hq3, h⟩ := Option.bind_eq_some_iff.mp h
  refine px_D_mono (c_World_rivalComes (d := d + 3) hq3) ?_
  rintro _ _ ⟨rfl, rfl⟩
  show px_D sc (d + 5) 99 6 [(0, .inr (.inr 6))] [.inl (q3.1)] (px_G1, q3.2) _
  refine px_D_st 9 (ip1 := 15) (ls1 := [(1, .inl (q3.1)), (0, .inr (.inr 6))]) (st1 := [.inl (px_wr ((q3.2 7 3) - 1)), .inl (0), .inr (.inr 7)]) (h1 := (px_G1, q3.2)) rfl ?_
  refine px_D_call (as := [.inl (0), .inl (px_wr ((q3.2 7 3) - 1))]) (rest := [.inr (.inr 7)]) rfl rfl rfl rfl ?_
  refine px_D_mono (c_Math_max (d := d + 4) rfl) ?_
  rintro _ _ ⟨rfl, rfl⟩
  show px_D sc (d + 5) 99 16 [(1, .inl (q3.1)), (0, .inr (.inr 6))] [.inl (f_Math_max q3.2 0 (px_wr ((q3.2 7 3) - 1))), .inr (.inr 7)] (px_G1, q3.2) _
  refine px_D_st 13 (ip1 := 29) (ls1 := [(1, .inl (q3.1)), (0, .inr (.inr 6))]) (st1 := [.inl (q3.1)]) (h1 := (px_G1, px_up (px_up (px_up q3.2 7 3 (f_Math_max q3.2 0 (px_wr ((q3.2 7 3) - 1)))) 7 4 (px_wr (((px_up q3.2 7 3 (f_Math_max q3.2 0 (px_wr ((q3.2 7 3) - 1)))) 7 4) + 1))) 7 6 0)) rfl ?_
  by_cases hc4 : (q3.1) = 0 ∨ (q3.1) = 1
  case neg => rw [if_neg hc4] at h; cases h
  rw [if_pos hc4] at h
  cases h
  exact px_D_iret rfl (px_bz hc4) ⟨rfl, rfl⟩

def l_R_weeks_19  : Nat → px_Z → Int → Int → Int → Option (Int × px_Z)
  | 0, _, _, _, _ => none
  | n + 1, s, x1, x2, x3 => if (x1) ≤ (x3) then some (x2, s) else (f_R_rememberDeed s ).bind (fun q4 => (f_World_passWeek q4 ).bind (fun q5 => if (q5.1) = (0) then l_R_weeks_19  n q5.2 x1 x2 (px_wr (x3 + 1)) else l_R_weeks_19  n q5.2 x1 (px_wr (x2 + 1)) (px_wr (x3 + 1))))
set_option maxHeartbeats 4000000 in
set_option maxRecDepth 100000 in
theorem cl_R_weeks_19 {sc : List Int} {d : Nat}  : ∀ (n : Nat) (s : px_Z) (x1 : Int) (x2 : Int) (x3 : Int) (out : Int × px_Z), l_R_weeks_19  n s x1 x2 x3 = some out → px_D sc (d + 6) 119 19 [(0, .inr (.inr 5)), (1, .inl (x1)), (2, .inl (x2)), (3, .inl (x3))] [] (px_G1, s) (px_Qi out) := by
  intro n
  induction n with
  | zero => intro s x1 x2 x3 out h; cases h
  | succ n ih =>
    intro s x1 x2 x3 out h
    rw [l_R_weeks_19] at h
    refine px_D_st 2 (ip1 := 21) (ls1 := [(0, .inr (.inr 5)), (1, .inl (x1)), (2, .inl (x2)), (3, .inl (x3))]) (st1 := [.inl (x1), .inl (x3)]) (h1 := (px_G1, s)) rfl ?_
    refine px_D_icmp rfl (fun hc => ?_) (fun hc => ?_)
    · have hc3 : (x1) ≤ (x3) := of_decide_eq_true hc
      rw [if_pos hc3] at h
      refine px_D_st 1 (ip1 := 32) (ls1 := [(0, .inr (.inr 5)), (1, .inl (x1)), (2, .inl (x2)), (3, .inl (x3))]) (st1 := [.inl (x2)]) (h1 := (px_G1, s)) rfl ?_
      cases h
      exact px_D_iret rfl rfl ⟨rfl, rfl⟩
    · have hc3 : ¬ ((x1) ≤ (x3)) := of_decide_eq_false hc
      rw [if_neg hc3] at h
      refine px_D_st 1 (ip1 := 23) (ls1 := [(0, .inr (.inr 5)), (1, .inl (x1)), (2, .inl (x2)), (3, .inl (x3))]) (st1 := [.inr (.inr 5)]) (h1 := (px_G1, s)) rfl ?_
      refine px_D_call (as := [.inr (.inr 5)]) (rest := []) rfl rfl rfl rfl ?_
      obtain ⟨q4, hq4, h⟩ := Option.bind_eq_some_iff.mp h
      refine px_D_mono (c_R_rememberDeed (d := d + 3) hq4) ?_
      rintro _ _ ⟨rfl, rfl⟩
      show px_D sc (d + 6) 119 24 [(0, .inr (.inr 5)), (1, .inl (x1)), (2, .inl (x2)), (3, .inl (x3))] [] (px_G1, q4) _
      refine px_D_st 2 (ip1 := 26) (ls1 := [(0, .inr (.inr 5)), (1, .inl (x1)), (2, .inl (x2)), (3, .inl (x3))]) (st1 := [.inr (.inr 6)]) (h1 := (px_G1, q4)) rfl ?_
      refine px_D_call (as := [.inr (.inr 6)]) (rest := []) rfl rfl rfl rfl ?_
      obtain ⟨q5, hq5, h⟩ := Option.bind_eq_some_iff.mp h
      refine px_D_mono (c_World_passWeek (d := d + 0) hq5) ?_
      rintro _ _ ⟨rfl, rfl⟩
      show px_D sc (d + 6) 119 27 [(0, .inr (.inr 5)), (1, .inl (x1)), (2, .inl (x2)), (3, .inl (x3))] [.inl (q5.1)] (px_G1, q5.2) _
      refine px_D_ifc rfl (fun hc => ?_) (fun hc => ?_)
      · have hc6 : (q5.1) = (0) := of_decide_eq_true hc
        rw [if_pos hc6] at h
        refine px_D_st 2 (ip1 := 19) (ls1 := [(3, .inl (px_wr (x3 + 1))), (0, .inr (.inr 5)), (1, .inl (x1)), (2, .inl (x2))]) (st1 := []) (h1 := (px_G1, q5.2)) rfl ?_
        refine px_D_ls [(0, .inr (.inr 5)), (1, .inl (x1)), (2, .inl (x2)), (3, .inl (px_wr (x3 + 1)))] rfl rfl (List.forall_mem_cons.mpr ⟨rfl, List.forall_mem_cons.mpr ⟨rfl, List.forall_mem_cons.mpr ⟨rfl, List.forall_mem_cons.mpr ⟨rfl, fun _ h => absurd h List.not_mem_nil⟩⟩⟩⟩) ?_
        exact ih _ _ _ _ _ h
      · have hc6 : ¬ ((q5.1) = (0)) := of_decide_eq_false hc
        rw [if_neg hc6] at h
        refine px_D_st 3 (ip1 := 19) (ls1 := [(3, .inl (px_wr (x3 + 1))), (2, .inl (px_wr (x2 + 1))), (0, .inr (.inr 5)), (1, .inl (x1))]) (st1 := []) (h1 := (px_G1, q5.2)) rfl ?_
        refine px_D_ls [(0, .inr (.inr 5)), (1, .inl (x1)), (2, .inl (px_wr (x2 + 1))), (3, .inl (px_wr (x3 + 1)))] rfl rfl (List.forall_mem_cons.mpr ⟨rfl, List.forall_mem_cons.mpr ⟨rfl, List.forall_mem_cons.mpr ⟨rfl, List.forall_mem_cons.mpr ⟨rfl, fun _ h => absurd h List.not_mem_nil⟩⟩⟩⟩) ?_
        exact ih _ _ _ _ _ h
def f_R_weeks (s : px_Z) (x1 : Int) : Option (Int × px_Z) := if (f_R_within s x1 1 20) = (0) then some (((-1), s)) else (if (px_wr ((s 7 4) + x1)) ≤ (60) then l_R_weeks_19  px_big s x1 0 0 else some (((-1), s)))
set_option maxHeartbeats 4000000 in
set_option maxRecDepth 100000 in
theorem c_R_weeks {sc : List Int} {d : Nat} {s : px_Z} {x1 : Int} {out : Int × px_Z} (h : f_R_weeks s x1 = some out) : px_D sc (d + 6) 119 0 [(0, .inr (.inr 5)), (1, .inl (x1))] [] (px_G1, s) (px_Qi out) := by
  unfold f_R_weeks at h
  refine px_D_st 3 (ip1 := 3) (ls1 := [(0, .inr (.inr 5)), (1, .inl (x1))]) (st1 := [.inl (20), .inl (1), .inl (x1)]) (h1 := (px_G1, s)) rfl ?_
  refine px_D_call (as := [.inl (x1), .inl (1), .inl (20)]) (rest := []) rfl rfl rfl rfl ?_
  refine px_D_mono (c_R_within (d := d + 5) rfl) ?_
  rintro _ _ ⟨rfl, rfl⟩
  show px_D sc (d + 6) 119 4 [(0, .inr (.inr 5)), (1, .inl (x1))] [.inl (f_R_within s x1 1 20)] (px_G1, s) _
  refine px_D_ifc rfl (fun hc => ?_) (fun hc => ?_)
  · have hc1 : (f_R_within s x1 1 20) = (0) := of_decide_eq_true hc
    rw [if_pos hc1] at h
    refine px_D_st 1 (ip1 := 14) (ls1 := [(0, .inr (.inr 5)), (1, .inl (x1))]) (st1 := [.inl ((-1))]) (h1 := (px_G1, s)) rfl ?_
    cases h
    exact px_D_iret rfl rfl ⟨rfl, rfl⟩
  · have hc1 : ¬ ((f_R_within s x1 1 20) = (0)) := of_decide_eq_false hc
    rw [if_neg hc1] at h
    refine px_D_st 7 (ip1 := 12) (ls1 := [(0, .inr (.inr 5)), (1, .inl (x1))]) (st1 := [.inl (60), .inl (px_wr ((s 7 4) + x1))]) (h1 := (px_G1, s)) rfl ?_
    refine px_D_icmp rfl (fun hc => ?_) (fun hc => ?_)
    · have hc2 : (px_wr ((s 7 4) + x1)) ≤ (60) := of_decide_eq_true hc
      rw [if_pos hc2] at h
      refine px_D_st 4 (ip1 := 19) (ls1 := [(3, .inl (0)), (2, .inl (0)), (0, .inr (.inr 5)), (1, .inl (x1))]) (st1 := []) (h1 := (px_G1, s)) rfl ?_
      refine px_D_ls [(0, .inr (.inr 5)), (1, .inl (x1)), (2, .inl (0)), (3, .inl (0))] rfl rfl (List.forall_mem_cons.mpr ⟨rfl, List.forall_mem_cons.mpr ⟨rfl, List.forall_mem_cons.mpr ⟨rfl, List.forall_mem_cons.mpr ⟨rfl, fun _ h => absurd h List.not_mem_nil⟩⟩⟩⟩) ?_
      refine cl_R_weeks_19  px_big _ _ _ _ _ h
    · have hc2 : ¬ ((px_wr ((s 7 4) + x1)) ≤ (60)) := of_decide_eq_false hc
      rw [if_neg hc2] at h
      refine px_D_st 1 (ip1 := 14) (ls1 := [(0, .inr (.inr 5)), (1, .inl (x1))]) (st1 := [.inl ((-1))]) (h1 := (px_G1, s)) rfl ?_
      cases h
      exact px_D_iret rfl rfl ⟨rfl, rfl⟩

def l_World_doDeed_36  : Nat → px_Z → Int → Int → Int → Option (Int × px_Z)
  | 0, _, _, _, _ => none
  | n + 1, s, x2, x4, x5 => if (x2) ≤ (x5) then (if (x4) = 0 ∨ (x4) = 1 then some (x4, s) else none) else (if (60) ≤ (s 7 4) then (if (x4) = 0 ∨ (x4) = 1 then some (x4, s) else none) else (f_World_passWeek s ).bind (fun q8 => l_World_doDeed_36  n q8.2 x2 x4 (px_wr (x5 + 1))))
set_option maxHeartbeats 4000000 in
set_option maxRecDepth 100000 in
theorem cl_World_doDeed_36 {sc : List Int} {d : Nat}  : ∀ (n : Nat) (s : px_Z) (x2 : Int) (x4 : Int) (x5 : Int) (out : Int × px_Z), l_World_doDeed_36  n s x2 x4 x5 = some out → px_D sc (d + 6) 104 36 [(0, .inr (.inr 6)), (2, .inl (x2)), (4, .inl (x4)), (5, .inl (x5))] [] (px_G1, s) (px_Qi out) := by
  intro n
  induction n with
  | zero => intro s x2 x4 x5 out h; cases h
  | succ n ih =>
    intro s x2 x4 x5 out h
    rw [l_World_doDeed_36] at h
    refine px_D_st 2 (ip1 := 38) (ls1 := [(0, .inr (.inr 6)), (2, .inl (x2)), (4, .inl (x4)), (5, .inl (x5))]) (st1 := [.inl (x2), .inl (x5)]) (h1 := (px_G1, s)) rfl ?_
    refine px_D_icmp rfl (fun hc => ?_) (fun hc => ?_)
    · have hc4 : (x2) ≤ (x5) := of_decide_eq_true hc
      rw [if_pos hc4] at h
      refine px_D_st 1 (ip1 := 50) (ls1 := [(0, .inr (.inr 6)), (2, .inl (x2)), (4, .inl (x4)), (5, .inl (x5))]) (st1 := [.inl (x4)]) (h1 := (px_G1, s)) rfl ?_
      by_cases hc5 : (x4) = 0 ∨ (x4) = 1
      case neg => rw [if_neg hc5] at h; cases h
      rw [if_pos hc5] at h
      cases h
      exact px_D_iret rfl (px_bz hc5) ⟨rfl, rfl⟩
    · have hc4 : ¬ ((x2) ≤ (x5)) := of_decide_eq_false hc
      rw [if_neg hc4] at h
      refine px_D_st 4 (ip1 := 43) (ls1 := [(0, .inr (.inr 6)), (2, .inl (x2)), (4, .inl (x4)), (5, .inl (x5))]) (st1 := [.inl (60), .inl (s 7 4)]) (h1 := (px_G1, s)) rfl ?_
      refine px_D_icmp rfl (fun hc => ?_) (fun hc => ?_)
      · have hc6 : (60) ≤ (s 7 4) := of_decide_eq_true hc
        rw [if_pos hc6] at h
        refine px_D_st 1 (ip1 := 50) (ls1 := [(0, .inr (.inr 6)), (2, .inl (x2)), (4, .inl (x4)), (5, .inl (x5))]) (st1 := [.inl (x4)]) (h1 := (px_G1, s)) rfl ?_
        by_cases hc7 : (x4) = 0 ∨ (x4) = 1
        case neg => rw [if_neg hc7] at h; cases h
        rw [if_pos hc7] at h
        cases h
        exact px_D_iret rfl (px_bz hc7) ⟨rfl, rfl⟩
      · have hc6 : ¬ ((60) ≤ (s 7 4)) := of_decide_eq_false hc
        rw [if_neg hc6] at h
        refine px_D_st 1 (ip1 := 45) (ls1 := [(0, .inr (.inr 6)), (2, .inl (x2)), (4, .inl (x4)), (5, .inl (x5))]) (st1 := [.inr (.inr 6)]) (h1 := (px_G1, s)) rfl ?_
        refine px_D_call (as := [.inr (.inr 6)]) (rest := []) rfl rfl rfl rfl ?_
        obtain ⟨q8, hq8, h⟩ := Option.bind_eq_some_iff.mp h
        refine px_D_mono (c_World_passWeek (d := d + 0) hq8) ?_
        rintro _ _ ⟨rfl, rfl⟩
        show px_D sc (d + 6) 104 46 [(0, .inr (.inr 6)), (2, .inl (x2)), (4, .inl (x4)), (5, .inl (x5))] [.inl (q8.1)] (px_G1, q8.2) _
        refine px_D_st 3 (ip1 := 36) (ls1 := [(5, .inl (px_wr (x5 + 1))), (0, .inr (.inr 6)), (2, .inl (x2)), (4, .inl (x4))]) (st1 := []) (h1 := (px_G1, q8.2)) rfl ?_
        refine px_D_ls [(0, .inr (.inr 6)), (2, .inl (x2)), (4, .inl (x4)), (5, .inl (px_wr (x5 + 1)))] rfl rfl (List.forall_mem_cons.mpr ⟨rfl, List.forall_mem_cons.mpr ⟨rfl, List.forall_mem_cons.mpr ⟨rfl, List.forall_mem_cons.mpr ⟨rfl, fun _ h => absurd h List.not_mem_nil⟩⟩⟩⟩) ?_
        exact ih _ _ _ _ _ h
def j_World_doDeed_j33 (s : px_Z) (x2 : Int) (t0 : Int) : Option (Int × px_Z) := l_World_doDeed_36  px_big s x2 t0 0
set_option maxHeartbeats 4000000 in
set_option maxRecDepth 100000 in
theorem cj_World_doDeed_j33 {sc : List Int} {d : Nat} {s : px_Z} {x2 : Int} {t0 : Int} {out : Int × px_Z} (h : j_World_doDeed_j33 s x2 t0 = some out) : px_D sc (d + 6) 104 33 [(0, .inr (.inr 6)), (2, .inl (x2))] [.inl (t0)] (px_G1, s) (px_Qi out) := by
  unfold j_World_doDeed_j33 at h
  refine px_D_st 3 (ip1 := 36) (ls1 := [(5, .inl (0)), (4, .inl (t0)), (0, .inr (.inr 6)), (2, .inl (x2))]) (st1 := []) (h1 := (px_G1, s)) rfl ?_
  refine px_D_ls [(0, .inr (.inr 6)), (2, .inl (x2)), (4, .inl (t0)), (5, .inl (0))] rfl rfl (List.forall_mem_cons.mpr ⟨rfl, List.forall_mem_cons.mpr ⟨rfl, List.forall_mem_cons.mpr ⟨rfl, List.forall_mem_cons.mpr ⟨rfl, fun _ h => absurd h List.not_mem_nil⟩⟩⟩⟩) ?_
  refine cl_World_doDeed_36  px_big _ _ _ _ _ h
def f_World_doDeed (s : px_Z) (x1 : Int) (x2 : Int) (x3 : Int) : Option (Int × px_Z) := if (x1) = (281) then (f_World_cryBy s x2).bind (fun q14 => some (1, q14)) else (if (x1) = (280) then (f_World_canPay s x2 x3).bind (fun q9 => if (q9.1) = (0) then (if (q9.1) = 0 ∨ (q9.1) = 1 then some (q9.1, q9.2) else none) else (f_World_payFor q9.2 x2 x3).bind (fun q12 => if (q9.1) = 0 ∨ (q9.1) = 1 then some (q9.1, q12.2) else none)) else (if (60) ≤ (s 7 4) then j_World_doDeed_j33 s x2 0 else j_World_doDeed_j33 s x2 1))
set_option maxHeartbeats 4000000 in
set_option maxRecDepth 100000 in
theorem c_World_doDeed {sc : List Int} {d : Nat} {s : px_Z} {x1 : Int} {x2 : Int} {x3 : Int} {out : Int × px_Z} (h : f_World_doDeed s x1 x2 x3 = some out) : px_D sc (d + 6) 104 0 [(0, .inr (.inr 6)), (1, .inl (x1)), (2, .inl (x2)), (3, .inl (x3))] [] (px_G1, s) (px_Qi out) := by
  unfold f_World_doDeed at h
  refine px_D_st 2 (ip1 := 2) (ls1 := [(0, .inr (.inr 6)), (1, .inl (x1)), (2, .inl (x2)), (3, .inl (x3))]) (st1 := [.inl (281), .inl (x1)]) (h1 := (px_G1, s)) rfl ?_
  refine px_D_icmp rfl (fun hc => ?_) (fun hc => ?_)
  · have hc1 : ¬ ((x1) = (281)) := of_decide_eq_true hc
    rw [if_neg hc1] at h
    refine px_D_st 2 (ip1 := 10) (ls1 := [(0, .inr (.inr 6)), (1, .inl (x1)), (2, .inl (x2)), (3, .inl (x3))]) (st1 := [.inl (280), .inl (x1)]) (h1 := (px_G1, s)) rfl ?_
    refine px_D_icmp rfl (fun hc => ?_) (fun hc => ?_)
    · have hc2 : ¬ ((x1) = (280)) := of_decide_eq_true hc
      rw [if_neg hc2] at h
      refine px_D_st 4 (ip1 := 29) (ls1 := [(0, .inr (.inr 6)), (1, .inl (x1)), (2, .inl (x2)), (3, .inl (x3))]) (st1 := [.inl (60), .inl (s 7 4)]) (h1 := (px_G1, s)) rfl ?_
      refine px_D_icmp rfl (fun hc => ?_) (fun hc => ?_)
      · have hc3 : (60) ≤ (s 7 4) := of_decide_eq_true hc
        rw [if_pos hc3] at h
        refine px_D_st 1 (ip1 := 33) (ls1 := [(0, .inr (.inr 6)), (1, .inl (x1)), (2, .inl (x2)), (3, .inl (x3))]) (st1 := [.inl (0)]) (h1 := (px_G1, s)) rfl ?_
        refine px_D_ls [(0, .inr (.inr 6)), (2, .inl (x2))] rfl rfl (List.forall_mem_cons.mpr ⟨rfl, List.forall_mem_cons.mpr ⟨rfl, fun _ h => absurd h List.not_mem_nil⟩⟩) ?_
        exact cj_World_doDeed_j33 h
      · have hc3 : ¬ ((60) ≤ (s 7 4)) := of_decide_eq_false hc
        rw [if_neg hc3] at h
        refine px_D_st 2 (ip1 := 33) (ls1 := [(0, .inr (.inr 6)), (1, .inl (x1)), (2, .inl (x2)), (3, .inl (x3))]) (st1 := [.inl (1)]) (h1 := (px_G1, s)) rfl ?_
        refine px_D_ls [(0, .inr (.inr 6)), (2, .inl (x2))] rfl rfl (List.forall_mem_cons.mpr ⟨rfl, List.forall_mem_cons.mpr ⟨rfl, fun _ h => absurd h List.not_mem_nil⟩⟩) ?_
        exact cj_World_doDeed_j33 h
    · have hc2 : (x1) = (280) := Decidable.of_not_not (of_decide_eq_false hc)
      rw [if_pos hc2] at h
      refine px_D_st 3 (ip1 := 14) (ls1 := [(0, .inr (.inr 6)), (1, .inl (x1)), (2, .inl (x2)), (3, .inl (x3))]) (st1 := [.inl (x3), .inl (x2), .inr (.inr 6)]) (h1 := (px_G1, s)) rfl ?_
      refine px_D_call (as := [.inr (.inr 6), .inl (x2), .inl (x3)]) (rest := []) rfl rfl rfl rfl ?_
      obtain ⟨q9, hq9, h⟩ := Option.bind_eq_some_iff.mp h
      refine px_D_mono (c_World_canPay (d := d + 0) hq9) ?_
      rintro _ _ ⟨rfl, rfl⟩
      show px_D sc (d + 6) 104 15 [(0, .inr (.inr 6)), (1, .inl (x1)), (2, .inl (x2)), (3, .inl (x3))] [.inl (q9.1)] (px_G1, q9.2) _
      refine px_D_st 2 (ip1 := 17) (ls1 := [(4, .inl (q9.1)), (0, .inr (.inr 6)), (1, .inl (x1)), (2, .inl (x2)), (3, .inl (x3))]) (st1 := [.inl (q9.1)]) (h1 := (px_G1, q9.2)) rfl ?_
      refine px_D_ifc rfl (fun hc => ?_) (fun hc => ?_)
      · have hc10 : (q9.1) = (0) := of_decide_eq_true hc
        rw [if_pos hc10] at h
        refine px_D_st 1 (ip1 := 24) (ls1 := [(4, .inl (q9.1)), (0, .inr (.inr 6)), (1, .inl (x1)), (2, .inl (x2)), (3, .inl (x3))]) (st1 := [.inl (q9.1)]) (h1 := (px_G1, q9.2)) rfl ?_
        by_cases hc11 : (q9.1) = 0 ∨ (q9.1) = 1
        case neg => rw [if_neg hc11] at h; cases h
        rw [if_pos hc11] at h
        cases h
        exact px_D_iret rfl (px_bz hc11) ⟨rfl, rfl⟩
      · have hc10 : ¬ ((q9.1) = (0)) := of_decide_eq_false hc
        rw [if_neg hc10] at h
        refine px_D_st 3 (ip1 := 21) (ls1 := [(4, .inl (q9.1)), (0, .inr (.inr 6)), (1, .inl (x1)), (2, .inl (x2)), (3, .inl (x3))]) (st1 := [.inl (x3), .inl (x2), .inr (.inr 6)]) (h1 := (px_G1, q9.2)) rfl ?_
        refine px_D_call (as := [.inr (.inr 6), .inl (x2), .inl (x3)]) (rest := []) rfl rfl rfl rfl ?_
        obtain ⟨q12, hq12, h⟩ := Option.bind_eq_some_iff.mp h
        refine px_D_mono (c_World_payFor (d := d + 0) hq12) ?_
        rintro _ _ ⟨rfl, rfl⟩
        show px_D sc (d + 6) 104 22 [(4, .inl (q9.1)), (0, .inr (.inr 6)), (1, .inl (x1)), (2, .inl (x2)), (3, .inl (x3))] [.inl (q12.1)] (px_G1, q12.2) _
        refine px_D_st 2 (ip1 := 24) (ls1 := [(4, .inl (q9.1)), (0, .inr (.inr 6)), (1, .inl (x1)), (2, .inl (x2)), (3, .inl (x3))]) (st1 := [.inl (q9.1)]) (h1 := (px_G1, q12.2)) rfl ?_
        by_cases hc13 : (q9.1) = 0 ∨ (q9.1) = 1
        case neg => rw [if_neg hc13] at h; cases h
        rw [if_pos hc13] at h
        cases h
        exact px_D_iret rfl (px_bz hc13) ⟨rfl, rfl⟩
  · have hc1 : (x1) = (281) := Decidable.of_not_not (of_decide_eq_false hc)
    rw [if_pos hc1] at h
    refine px_D_st 2 (ip1 := 5) (ls1 := [(0, .inr (.inr 6)), (1, .inl (x1)), (2, .inl (x2)), (3, .inl (x3))]) (st1 := [.inl (x2), .inr (.inr 6)]) (h1 := (px_G1, s)) rfl ?_
    refine px_D_call (as := [.inr (.inr 6), .inl (x2)]) (rest := []) rfl rfl rfl rfl ?_
    obtain ⟨q14, hq14, h⟩ := Option.bind_eq_some_iff.mp h
    refine px_D_mono (c_World_cryBy (d := d + 4) hq14) ?_
    rintro _ _ ⟨rfl, rfl⟩
    show px_D sc (d + 6) 104 6 [(0, .inr (.inr 6)), (1, .inl (x1)), (2, .inl (x2)), (3, .inl (x3))] [] (px_G1, q14) _
    refine px_D_st 1 (ip1 := 7) (ls1 := [(0, .inr (.inr 6)), (1, .inl (x1)), (2, .inl (x2)), (3, .inl (x3))]) (st1 := [.inl (1)]) (h1 := (px_G1, q14)) rfl ?_
    cases h
    exact px_D_iret rfl rfl ⟨rfl, rfl⟩

def l_R_goes_6  : Nat → px_Z → Int → Int → Option (Int × px_Z)
  | 0, _, _, _ => none
  | n + 1, s, x1, x2 => if (s 34 0) ≤ (x2) then some (x1, s) else (if (60) ≤ (x2) then some (x1, s) else (if 0 ≤ (x2) ∧ (x2) < 60 then if 0 ≤ (x2) ∧ (x2) < 60 then if 0 ≤ (x2) ∧ (x2) < 60 then (f_World_doDeed s (s 35 x2.toNat) (s 36 x2.toNat) (s 37 x2.toNat)).bind (fun q7 => if (q7.1) = (0) then l_R_goes_6  n q7.2 x1 (px_wr (x2 + 1)) else l_R_goes_6  n q7.2 (px_wr (x1 + 1)) (px_wr (x2 + 1))) else none else none else none))
set_option maxHeartbeats 4000000 in
set_option maxRecDepth 100000 in
theorem cl_R_goes_6 {sc : List Int} {d : Nat}  : ∀ (n : Nat) (s : px_Z) (x1 : Int) (x2 : Int) (out : Int × px_Z), l_R_goes_6  n s x1 x2 = some out → px_D sc (d + 7) 120 6 [(0, .inr (.inr 5)), (1, .inl (x1)), (2, .inl (x2))] [] (px_G1, s) (px_Qi out) := by
  intro n
  induction n with
  | zero => intro s x1 x2 out h; cases h
  | succ n ih =>
    intro s x1 x2 out h
    rw [l_R_goes_6] at h
    refine px_D_st 5 (ip1 := 11) (ls1 := [(0, .inr (.inr 5)), (1, .inl (x1)), (2, .inl (x2))]) (st1 := [.inl (s 34 0), .inl (x2)]) (h1 := (px_G1, s)) rfl ?_
    refine px_D_icmp rfl (fun hc => ?_) (fun hc => ?_)
    · have hc2 : (s 34 0) ≤ (x2) := of_decide_eq_true hc
      rw [if_pos hc2] at h
      refine px_D_st 1 (ip1 := 41) (ls1 := [(0, .inr (.inr 5)), (1, .inl (x1)), (2, .inl (x2))]) (st1 := [.inl (x1)]) (h1 := (px_G1, s)) rfl ?_
      cases h
      exact px_D_iret rfl rfl ⟨rfl, rfl⟩
    · have hc2 : ¬ ((s 34 0) ≤ (x2)) := of_decide_eq_false hc
      rw [if_neg hc2] at h
      refine px_D_st 2 (ip1 := 14) (ls1 := [(0, .inr (.inr 5)), (1, .inl (x1)), (2, .inl (x2))]) (st1 := [.inl (60), .inl (x2)]) (h1 := (px_G1, s)) rfl ?_
      refine px_D_icmp rfl (fun hc => ?_) (fun hc => ?_)
      · have hc3 : (60) ≤ (x2) := of_decide_eq_true hc
        rw [if_pos hc3] at h
        refine px_D_st 1 (ip1 := 41) (ls1 := [(0, .inr (.inr 5)), (1, .inl (x1)), (2, .inl (x2))]) (st1 := [.inl (x1)]) (h1 := (px_G1, s)) rfl ?_
        cases h
        exact px_D_iret rfl rfl ⟨rfl, rfl⟩
      · have hc3 : ¬ ((60) ≤ (x2)) := of_decide_eq_false hc
        rw [if_neg hc3] at h
        refine px_D_st 7 (ip1 := 22) (ls1 := [(0, .inr (.inr 5)), (1, .inl (x1)), (2, .inl (x2))]) (st1 := [.inl (x2), .inr (.inr 35), .inr (.inr 6)]) (h1 := (px_G1, s)) rfl ?_
        by_cases hc4 : 0 ≤ (x2) ∧ (x2) < 60
        case neg => rw [if_neg hc4] at h; cases h
        rw [if_pos hc4] at h
        refine px_D_iald (k := 30) (n := 60) rfl rfl hc4 ?_
        refine px_D_st 5 (ip1 := 28) (ls1 := [(0, .inr (.inr 5)), (1, .inl (x1)), (2, .inl (x2))]) (st1 := [.inl (x2), .inr (.inr 36), .inl (s 35 x2.toNat), .inr (.inr 6)]) (h1 := (px_G1, s)) rfl ?_
        by_cases hc5 : 0 ≤ (x2) ∧ (x2) < 60
        case neg => rw [if_neg hc5] at h; cases h
        rw [if_pos hc5] at h
        refine px_D_iald (k := 31) (n := 60) rfl rfl hc5 ?_
        refine px_D_st 5 (ip1 := 34) (ls1 := [(0, .inr (.inr 5)), (1, .inl (x1)), (2, .inl (x2))]) (st1 := [.inl (x2), .inr (.inr 37), .inl (s 36 x2.toNat), .inl (s 35 x2.toNat), .inr (.inr 6)]) (h1 := (px_G1, s)) rfl ?_
        by_cases hc6 : 0 ≤ (x2) ∧ (x2) < 60
        case neg => rw [if_neg hc6] at h; cases h
        rw [if_pos hc6] at h
        refine px_D_iald (k := 32) (n := 60) rfl rfl hc6 ?_
        refine px_D_call (as := [.inr (.inr 6), .inl (s 35 x2.toNat), .inl (s 36 x2.toNat), .inl (s 37 x2.toNat)]) (rest := []) rfl rfl rfl rfl ?_
        obtain ⟨q7, hq7, h⟩ := Option.bind_eq_some_iff.mp h
        refine px_D_mono (c_World_doDeed (d := d + 0) hq7) ?_
        rintro _ _ ⟨rfl, rfl⟩
        show px_D sc (d + 7) 120 36 [(0, .inr (.inr 5)), (1, .inl (x1)), (2, .inl (x2))] [.inl (q7.1)] (px_G1, q7.2) _
        refine px_D_ifc rfl (fun hc => ?_) (fun hc => ?_)
        · have hc8 : (q7.1) = (0) := of_decide_eq_true hc
          rw [if_pos hc8] at h
          refine px_D_st 2 (ip1 := 6) (ls1 := [(2, .inl (px_wr (x2 + 1))), (0, .inr (.inr 5)), (1, .inl (x1))]) (st1 := []) (h1 := (px_G1, q7.2)) rfl ?_
          refine px_D_ls [(0, .inr (.inr 5)), (1, .inl (x1)), (2, .inl (px_wr (x2 + 1)))] rfl rfl (List.forall_mem_cons.mpr ⟨rfl, List.forall_mem_cons.mpr ⟨rfl, List.forall_mem_cons.mpr ⟨rfl, fun _ h => absurd h List.not_mem_nil⟩⟩⟩) ?_
          exact ih _ _ _ _ h
        · have hc8 : ¬ ((q7.1) = (0)) := of_decide_eq_false hc
          rw [if_neg hc8] at h
          refine px_D_st 3 (ip1 := 6) (ls1 := [(2, .inl (px_wr (x2 + 1))), (1, .inl (px_wr (x1 + 1))), (0, .inr (.inr 5))]) (st1 := []) (h1 := (px_G1, q7.2)) rfl ?_
          refine px_D_ls [(0, .inr (.inr 5)), (1, .inl (px_wr (x1 + 1))), (2, .inl (px_wr (x2 + 1)))] rfl rfl (List.forall_mem_cons.mpr ⟨rfl, List.forall_mem_cons.mpr ⟨rfl, List.forall_mem_cons.mpr ⟨rfl, fun _ h => absurd h List.not_mem_nil⟩⟩⟩) ?_
          exact ih _ _ _ _ h
def f_R_goes (s : px_Z) : Option (Int × px_Z) := (f_R_rememberDeed s ).bind (fun q1 => l_R_goes_6  px_big q1 0 0)
set_option maxHeartbeats 4000000 in
set_option maxRecDepth 100000 in
theorem c_R_goes {sc : List Int} {d : Nat} {s : px_Z} {out : Int × px_Z} (h : f_R_goes s  = some out) : px_D sc (d + 7) 120 0 [(0, .inr (.inr 5))] [] (px_G1, s) (px_Qi out) := by
  unfold f_R_goes at h
  refine px_D_st 1 (ip1 := 1) (ls1 := [(0, .inr (.inr 5))]) (st1 := [.inr (.inr 5)]) (h1 := (px_G1, s)) rfl ?_
  refine px_D_call (as := [.inr (.inr 5)]) (rest := []) rfl rfl rfl rfl ?_
  obtain ⟨q1, hq1, h⟩ := Option.bind_eq_some_iff.mp h
  refine px_D_mono (c_R_rememberDeed (d := d + 4) hq1) ?_
  rintro _ _ ⟨rfl, rfl⟩
  show px_D sc (d + 7) 120 2 [(0, .inr (.inr 5))] [] (px_G1, q1) _
  refine px_D_st 4 (ip1 := 6) (ls1 := [(2, .inl (0)), (1, .inl (0)), (0, .inr (.inr 5))]) (st1 := []) (h1 := (px_G1, q1)) rfl ?_
  refine px_D_ls [(0, .inr (.inr 5)), (1, .inl (0)), (2, .inl (0))] rfl rfl (List.forall_mem_cons.mpr ⟨rfl, List.forall_mem_cons.mpr ⟨rfl, List.forall_mem_cons.mpr ⟨rfl, fun _ h => absurd h List.not_mem_nil⟩⟩⟩) ?_
  refine cl_R_goes_6  px_big _ _ _ _ h

def f_R_of (s : px_Z) (x1 : Int) (x2 : Int) : Option (Int × px_Z) := if (f_R_within s x1 0 (px_wr ((s 6 1) - 1))) = (0) then some (((-2), s)) else (if (x2) = 0 then (if 0 ≤ (x1) ∧ (x1) < 8 then some (s 12 x1.toNat, s) else none) else (if (x2) = 1 then (if 0 ≤ (x1) ∧ (x1) < 8 then some (s 8 x1.toNat, s) else none) else (if (x2) = 2 then (if 0 ≤ (x1) ∧ (x1) < 8 then some (s 9 x1.toNat, s) else none) else (if (x2) = 3 then (if 0 ≤ (x1) ∧ (x1) < 8 then some (s 10 x1.toNat, s) else none) else (if (x2) = 4 then (if 0 ≤ (x1) ∧ (x1) < 8 then some (s 11 x1.toNat, s) else none) else (if (x2) = 5 then (f_World_price s x1).bind (fun q13 => some (q13.1, q13.2)) else (if (x2) = 6 then (f_World_mayCome s x1).bind (fun q15 => if (q15) = (0) then some (0, s) else some (1, s)) else (if (x2) = 7 then (if 0 ≤ (x1) ∧ (x1) < 8 then some (s 13 x1.toNat, s) else none) else some (((-2), s))))))))))
set_option maxHeartbeats 4000000 in
set_option maxRecDepth 100000 in
theorem c_R_of {sc : List Int} {d : Nat} {s : px_Z} {x1 : Int} {x2 : Int} {out : Int × px_Z} (h : f_R_of s x1 x2 = some out) : px_D sc (d + 5) 121 0 [(0, .inr (.inr 5)), (1, .inl (x1)), (2, .inl (x2))] [] (px_G1, s) (px_Qi out) := by
  unfold f_R_of at h
  refine px_D_st 7 (ip1 := 7) (ls1 := [(0, .inr (.inr 5)), (1, .inl (x1)), (2, .inl (x2))]) (st1 := [.inl (px_wr ((s 6 1) - 1)), .inl (0), .inl (x1)]) (h1 := (px_G1, s)) rfl ?_
  refine px_D_call (as := [.inl (x1), .inl (0), .inl (px_wr ((s 6 1) - 1))]) (rest := []) rfl rfl rfl rfl ?_
  refine px_D_mono (c_R_within (d := d + 4) rfl) ?_
  rintro _ _ ⟨rfl, rfl⟩
  show px_D sc (d + 5) 121 8 [(0, .inr (.inr 5)), (1, .inl (x1)), (2, .inl (x2))] [.inl (f_R_within s x1 0 (px_wr ((s 6 1) - 1)))] (px_G1, s) _
  refine px_D_ifc rfl (fun hc => ?_) (fun hc => ?_)
  · have hc1 : ¬ ((f_R_within s x1 0 (px_wr ((s 6 1) - 1))) = (0)) := of_decide_eq_true hc
    rw [if_neg hc1] at h
    refine px_D_st 1 (ip1 := 12) (ls1 := [(0, .inr (.inr 5)), (1, .inl (x1)), (2, .inl (x2))]) (st1 := [.inl (x2)]) (h1 := (px_G1, s)) rfl ?_
    by_cases hc2 : (x2) = 0
    · rw [if_pos hc2] at h
      refine px_D_tsw (c := 0) rfl hc2 (by decide) rfl ?_
      refine px_D_st 4 (ip1 := 17) (ls1 := [(0, .inr (.inr 5)), (1, .inl (x1)), (2, .inl (x2))]) (st1 := [.inl (x1), .inr (.inr 12)]) (h1 := (px_G1, s)) rfl ?_
      by_cases hc3 : 0 ≤ (x1) ∧ (x1) < 8
      case neg => rw [if_neg hc3] at h; cases h
      rw [if_pos hc3] at h
      refine px_D_iald (k := 7) (n := 8) rfl rfl hc3 ?_
      cases h
      exact px_D_iret rfl rfl ⟨rfl, rfl⟩
    rw [if_neg hc2] at h
    by_cases hc4 : (x2) = 1
    · rw [if_pos hc4] at h
      refine px_D_tsw (c := 1) rfl hc4 (by decide) rfl ?_
      refine px_D_st 5 (ip1 := 24) (ls1 := [(0, .inr (.inr 5)), (1, .inl (x1)), (2, .inl (x2))]) (st1 := [.inl (x1), .inr (.inr 8)]) (h1 := (px_G1, s)) rfl ?_
      by_cases hc5 : 0 ≤ (x1) ∧ (x1) < 8
      case neg => rw [if_neg hc5] at h; cases h
      rw [if_pos hc5] at h
      refine px_D_iald (k := 3) (n := 8) rfl rfl hc5 ?_
      cases h
      exact px_D_iret rfl rfl ⟨rfl, rfl⟩
    rw [if_neg hc4] at h
    by_cases hc6 : (x2) = 2
    · rw [if_pos hc6] at h
      refine px_D_tsw (c := 2) rfl hc6 (by decide) rfl ?_
      refine px_D_st 5 (ip1 := 31) (ls1 := [(0, .inr (.inr 5)), (1, .inl (x1)), (2, .inl (x2))]) (st1 := [.inl (x1), .inr (.inr 9)]) (h1 := (px_G1, s)) rfl ?_
      by_cases hc7 : 0 ≤ (x1) ∧ (x1) < 8
      case neg => rw [if_neg hc7] at h; cases h
      rw [if_pos hc7] at h
      refine px_D_iald (k := 4) (n := 8) rfl rfl hc7 ?_
      cases h
      exact px_D_iret rfl rfl ⟨rfl, rfl⟩
    rw [if_neg hc6] at h
    by_cases hc8 : (x2) = 3
    · rw [if_pos hc8] at h
      refine px_D_tsw (c := 3) rfl hc8 (by decide) rfl ?_
      refine px_D_st 5 (ip1 := 38) (ls1 := [(0, .inr (.inr 5)), (1, .inl (x1)), (2, .inl (x2))]) (st1 := [.inl (x1), .inr (.inr 10)]) (h1 := (px_G1, s)) rfl ?_
      by_cases hc9 : 0 ≤ (x1) ∧ (x1) < 8
      case neg => rw [if_neg hc9] at h; cases h
      rw [if_pos hc9] at h
      refine px_D_iald (k := 5) (n := 8) rfl rfl hc9 ?_
      cases h
      exact px_D_iret rfl rfl ⟨rfl, rfl⟩
    rw [if_neg hc8] at h
    by_cases hc10 : (x2) = 4
    · rw [if_pos hc10] at h
      refine px_D_tsw (c := 4) rfl hc10 (by decide) rfl ?_
      refine px_D_st 5 (ip1 := 45) (ls1 := [(0, .inr (.inr 5)), (1, .inl (x1)), (2, .inl (x2))]) (st1 := [.inl (x1), .inr (.inr 11)]) (h1 := (px_G1, s)) rfl ?_
      by_cases hc11 : 0 ≤ (x1) ∧ (x1) < 8
      case neg => rw [if_neg hc11] at h; cases h
      rw [if_pos hc11] at h
      refine px_D_iald (k := 6) (n := 8) rfl rfl hc11 ?_
      cases h
      exact px_D_iret rfl rfl ⟨rfl, rfl⟩
    rw [if_neg hc10] at h
    by_cases hc12 : (x2) = 5
    · rw [if_pos hc12] at h
      refine px_D_tsw (c := 5) rfl hc12 (by decide) rfl ?_
      refine px_D_st 3 (ip1 := 50) (ls1 := [(0, .inr (.inr 5)), (1, .inl (x1)), (2, .inl (x2))]) (st1 := [.inl (x1), .inr (.inr 6)]) (h1 := (px_G1, s)) rfl ?_
      refine px_D_call (as := [.inr (.inr 6), .inl (x1)]) (rest := []) rfl rfl rfl rfl ?_
      obtain ⟨q13, hq13, h⟩ := Option.bind_eq_some_iff.mp h
      refine px_D_mono (c_World_price (d := d + 0) hq13) ?_
      rintro _ _ ⟨rfl, rfl⟩
      show px_D sc (d + 5) 121 51 [(0, .inr (.inr 5)), (1, .inl (x1)), (2, .inl (x2))] [.inl (q13.1)] (px_G1, q13.2) _
      cases h
      exact px_D_iret rfl rfl ⟨rfl, rfl⟩
    rw [if_neg hc12] at h
    by_cases hc14 : (x2) = 6
    · rw [if_pos hc14] at h
      refine px_D_tsw (c := 6) rfl hc14 (by decide) rfl ?_
      refine px_D_st 3 (ip1 := 55) (ls1 := [(0, .inr (.inr 5)), (1, .inl (x1)), (2, .inl (x2))]) (st1 := [.inl (x1), .inr (.inr 6)]) (h1 := (px_G1, s)) rfl ?_
      refine px_D_call (as := [.inr (.inr 6), .inl (x1)]) (rest := []) rfl rfl rfl rfl ?_
      obtain ⟨q15, hq15, h⟩ := Option.bind_eq_some_iff.mp h
      refine px_D_mono (c_World_mayCome (d := d + 2) hq15) ?_
      rintro _ _ ⟨rfl, rfl⟩
      show px_D sc (d + 5) 121 56 [(0, .inr (.inr 5)), (1, .inl (x1)), (2, .inl (x2))] [.inl (q15)] (px_G1, s) _
      refine px_D_ifc rfl (fun hc => ?_) (fun hc => ?_)
      · have hc16 : (q15) = (0) := of_decide_eq_true hc
        rw [if_pos hc16] at h
        refine px_D_st 1 (ip1 := 60) (ls1 := [(0, .inr (.inr 5)), (1, .inl (x1)), (2, .inl (x2))]) (st1 := [.inl (0)]) (h1 := (px_G1, s)) rfl ?_
        cases h
        exact px_D_iret rfl rfl ⟨rfl, rfl⟩
      · have hc16 : ¬ ((q15) = (0)) := of_decide_eq_false hc
        rw [if_neg hc16] at h
        refine px_D_st 2 (ip1 := 60) (ls1 := [(0, .inr (.inr 5)), (1, .inl (x1)), (2, .inl (x2))]) (st1 := [.inl (1)]) (h1 := (px_G1, s)) rfl ?_
        cases h
        exact px_D_iret rfl rfl ⟨rfl, rfl⟩
    rw [if_neg hc14] at h
    by_cases hc17 : (x2) = 7
    · rw [if_pos hc17] at h
      refine px_D_tsw (c := 7) rfl hc17 (by decide) rfl ?_
      refine px_D_st 4 (ip1 := 65) (ls1 := [(0, .inr (.inr 5)), (1, .inl (x1)), (2, .inl (x2))]) (st1 := [.inl (x1), .inr (.inr 13)]) (h1 := (px_G1, s)) rfl ?_
      by_cases hc18 : 0 ≤ (x1) ∧ (x1) < 8
      case neg => rw [if_neg hc18] at h; cases h
      rw [if_pos hc18] at h
      refine px_D_iald (k := 8) (n := 8) rfl rfl hc18 ?_
      cases h
      exact px_D_iret rfl rfl ⟨rfl, rfl⟩
    rw [if_neg hc17] at h
    refine px_D_tswD rfl (by omega) ?_
    refine px_D_st 1 (ip1 := 68) (ls1 := [(0, .inr (.inr 5)), (1, .inl (x1)), (2, .inl (x2))]) (st1 := [.inl ((-2))]) (h1 := (px_G1, s)) rfl ?_
    cases h
    exact px_D_iret rfl rfl ⟨rfl, rfl⟩
  · have hc1 : (f_R_within s x1 0 (px_wr ((s 6 1) - 1))) = (0) := Decidable.of_not_not (of_decide_eq_false hc)
    rw [if_pos hc1] at h
    refine px_D_st 1 (ip1 := 10) (ls1 := [(0, .inr (.inr 5)), (1, .inl (x1)), (2, .inl (x2))]) (st1 := [.inl ((-2))]) (h1 := (px_G1, s)) rfl ?_
    cases h
    exact px_D_iret rfl rfl ⟨rfl, rfl⟩

def f_R_mud (s : px_Z) (x1 : Int) (x2 : Int) : Option (Int) := (f_Hills_mudIn s x1 x2).bind (fun q1 => some q1)
set_option maxHeartbeats 4000000 in
set_option maxRecDepth 100000 in
theorem c_R_mud {sc : List Int} {d : Nat} {s : px_Z} {x1 : Int} {x2 : Int} {out : Int} (h : f_R_mud s x1 x2 = some out) : px_D sc (d + 2) 122 0 [(0, .inr (.inr 5)), (1, .inl (x1)), (2, .inl (x2))] [] (px_G1, s) (px_Qp s out) := by
  unfold f_R_mud at h
  refine px_D_st 5 (ip1 := 5) (ls1 := [(0, .inr (.inr 5)), (1, .inl (x1)), (2, .inl (x2))]) (st1 := [.inl (x2), .inl (x1), .inr (.inr 28)]) (h1 := (px_G1, s)) rfl ?_
  refine px_D_call (as := [.inr (.inr 28), .inl (x1), .inl (x2)]) (rest := []) rfl rfl rfl rfl ?_
  obtain ⟨q1, hq1, h⟩ := Option.bind_eq_some_iff.mp h
  refine px_D_mono (c_Hills_mudIn (d := d + 0) hq1) ?_
  rintro _ _ ⟨rfl, rfl⟩
  show px_D sc (d + 2) 122 6 [(0, .inr (.inr 5)), (1, .inl (x1)), (2, .inl (x2))] [.inl (q1)] (px_G1, s) _
  cases h
  exact px_D_iret rfl rfl ⟨rfl, rfl⟩

def f_R_book (s : px_Z) (x1 : Int) (x2 : Int) : Option (Int) := if (f_R_within s x1 0 (px_wr ((s 7 7) - 1))) = (0) then some (-2) else (if (f_R_within s x2 0 4) = (0) then some (-2) else (if 0 ≤ (px_wr ((px_wr (x1 * 5)) + x2)) ∧ (px_wr ((px_wr (x1 * 5)) + x2)) < 600 then some (s 45 (px_wr ((px_wr (x1 * 5)) + x2)).toNat) else none))
set_option maxHeartbeats 4000000 in
set_option maxRecDepth 100000 in
theorem c_R_book {sc : List Int} {d : Nat} {s : px_Z} {x1 : Int} {x2 : Int} {out : Int} (h : f_R_book s x1 x2 = some out) : px_D sc (d + 1) 123 0 [(0, .inr (.inr 5)), (1, .inl (x1)), (2, .inl (x2))] [] (px_G1, s) (px_Qp s out) := by
  unfold f_R_book at h
  refine px_D_st 8 (ip1 := 8) (ls1 := [(0, .inr (.inr 5)), (1, .inl (x1)), (2, .inl (x2))]) (st1 := [.inl (px_wr ((s 7 7) - 1)), .inl (0), .inl (x1)]) (h1 := (px_G1, s)) rfl ?_
  refine px_D_call (as := [.inl (x1), .inl (0), .inl (px_wr ((s 7 7) - 1))]) (rest := []) rfl rfl rfl rfl ?_
  refine px_D_mono (c_R_within (d := d + 0) rfl) ?_
  rintro _ _ ⟨rfl, rfl⟩
  show px_D sc (d + 1) 123 9 [(0, .inr (.inr 5)), (1, .inl (x1)), (2, .inl (x2))] [.inl (f_R_within s x1 0 (px_wr ((s 7 7) - 1)))] (px_G1, s) _
  refine px_D_ifc rfl (fun hc => ?_) (fun hc => ?_)
  · have hc1 : (f_R_within s x1 0 (px_wr ((s 7 7) - 1))) = (0) := of_decide_eq_true hc
    rw [if_pos hc1] at h
    refine px_D_st 1 (ip1 := 16) (ls1 := [(0, .inr (.inr 5)), (1, .inl (x1)), (2, .inl (x2))]) (st1 := [.inl ((-2))]) (h1 := (px_G1, s)) rfl ?_
    cases h
    exact px_D_iret rfl rfl ⟨rfl, rfl⟩
  · have hc1 : ¬ ((f_R_within s x1 0 (px_wr ((s 7 7) - 1))) = (0)) := of_decide_eq_false hc
    rw [if_neg hc1] at h
    refine px_D_st 3 (ip1 := 13) (ls1 := [(0, .inr (.inr 5)), (1, .inl (x1)), (2, .inl (x2))]) (st1 := [.inl (4), .inl (0), .inl (x2)]) (h1 := (px_G1, s)) rfl ?_
    refine px_D_call (as := [.inl (x2), .inl (0), .inl (4)]) (rest := []) rfl rfl rfl rfl ?_
    refine px_D_mono (c_R_within (d := d + 0) rfl) ?_
    rintro _ _ ⟨rfl, rfl⟩
    show px_D sc (d + 1) 123 14 [(0, .inr (.inr 5)), (1, .inl (x1)), (2, .inl (x2))] [.inl (f_R_within s x2 0 4)] (px_G1, s) _
    refine px_D_ifc rfl (fun hc => ?_) (fun hc => ?_)
    · have hc2 : ¬ ((f_R_within s x2 0 4) = (0)) := of_decide_eq_true hc
      rw [if_neg hc2] at h
      refine px_D_st 8 (ip1 := 25) (ls1 := [(0, .inr (.inr 5)), (1, .inl (x1)), (2, .inl (x2))]) (st1 := [.inl (px_wr ((px_wr (x1 * 5)) + x2)), .inr (.inr 45)]) (h1 := (px_G1, s)) rfl ?_
      by_cases hc3 : 0 ≤ (px_wr ((px_wr (x1 * 5)) + x2)) ∧ (px_wr ((px_wr (x1 * 5)) + x2)) < 600
      case neg => rw [if_neg hc3] at h; cases h
      rw [if_pos hc3] at h
      refine px_D_iald (k := 40) (n := 600) rfl rfl hc3 ?_
      cases h
      exact px_D_iret rfl rfl ⟨rfl, rfl⟩
    · have hc2 : (f_R_within s x2 0 4) = (0) := Decidable.of_not_not (of_decide_eq_false hc)
      rw [if_pos hc2] at h
      refine px_D_st 1 (ip1 := 16) (ls1 := [(0, .inr (.inr 5)), (1, .inl (x1)), (2, .inl (x2))]) (st1 := [.inl ((-2))]) (h1 := (px_G1, s)) rfl ?_
      cases h
      exact px_D_iret rfl rfl ⟨rfl, rfl⟩

def f_Least_canBe (s : px_Z) : Int := if (536870912) ≤ (s 145 11) then 0 else 1
set_option maxHeartbeats 4000000 in
set_option maxRecDepth 100000 in
theorem c_Least_canBe {sc : List Int} {d : Nat} {s : px_Z} {out : Int} (h : f_Least_canBe s  = out) : px_D sc (d + 0) 22 0 [(0, .inr (.inr 145))] [] (px_G1, s) (px_Qp s out) := by
  unfold f_Least_canBe at h
  refine px_D_st 3 (ip1 := 3) (ls1 := [(0, .inr (.inr 145))]) (st1 := [.inl (536870912), .inl (s 145 11)]) (h1 := (px_G1, s)) rfl ?_
  refine px_D_icmp rfl (fun hc => ?_) (fun hc => ?_)
  · have hc1 : (536870912) ≤ (s 145 11) := of_decide_eq_true hc
    rw [if_pos hc1] at h
    refine px_D_st 1 (ip1 := 7) (ls1 := [(0, .inr (.inr 145))]) (st1 := [.inl (0)]) (h1 := (px_G1, s)) rfl ?_
    subst h
    exact px_D_iret rfl rfl ⟨rfl, rfl⟩
  · have hc1 : ¬ ((536870912) ≤ (s 145 11)) := of_decide_eq_false hc
    rw [if_neg hc1] at h
    refine px_D_st 2 (ip1 := 7) (ls1 := [(0, .inr (.inr 145))]) (st1 := [.inl (1)]) (h1 := (px_G1, s)) rfl ?_
    subst h
    exact px_D_iret rfl rfl ⟨rfl, rfl⟩
set_option maxHeartbeats 4000000 in
set_option maxRecDepth 100000 in
theorem bz_Least_canBe {s : px_Z} : f_Least_canBe s  = 0 ∨ f_Least_canBe s  = 1 := by
  unfold f_Least_canBe
  repeat' split
  all_goals first | exact Or.inl rfl | exact Or.inr rfl | exact Or.inl rfl

def l_Least_thingOfWeek_9 (s : px_Z) (k64 : Int → Option (Int)) : Nat → Int → Int → Int → Int → Int → Option (Int)
  | 0, _, _, _, _, _ => none
  | n + 1, x1, x2, x3, x4, x5 => if (x1) < (x5) then k64 x4 else (if (60) < (px_wr ((s 7 4) + x5)) then k64 x4 else (if (x2) = (s 145 6) then (if (8) ≤ (8) then l_Least_thingOfWeek_9 s k64 n x1 x2 x3 8 (px_wr (x5 + 1)) else (if (s 145 9) = (0) then l_Least_thingOfWeek_9 s k64 n x1 (px_or (x2) ((px_shl (1) (8)))) 0 8 (px_wr (x5 + 1)) else l_Least_thingOfWeek_9 s k64 n x1 (px_or (x2) ((px_shl (1) (8)))) 8 8 (px_wr (x5 + 1)))) else (if 0 ≤ (px_wr ((px_wr ((px_wr ((s 7 4) + x5)) * 128)) + x2)) ∧ (px_wr ((px_wr ((px_wr ((s 7 4) + x5)) * 128)) + x2)) < 7808 then if (8) ≤ (px_and ((px_shr ((s 147 (px_wr ((px_wr ((px_wr ((s 7 4) + x5)) * 128)) + x2)).toNat)) ((px_wr (4 * x3))))) (15)) then l_Least_thingOfWeek_9 s k64 n x1 x2 x3 (px_and ((px_shr ((s 147 (px_wr ((px_wr ((px_wr ((s 7 4) + x5)) * 128)) + x2)).toNat)) ((px_wr (4 * x3))))) (15)) (px_wr (x5 + 1)) else (if (s 145 9) = (0) then l_Least_thingOfWeek_9 s k64 n x1 (px_or (x2) ((px_shl (1) ((px_and ((px_shr ((s 147 (px_wr ((px_wr ((px_wr ((s 7 4) + x5)) * 128)) + x2)).toNat)) ((px_wr (4 * x3))))) (15)))))) 0 (px_and ((px_shr ((s 147 (px_wr ((px_wr ((px_wr ((s 7 4) + x5)) * 128)) + x2)).toNat)) ((px_wr (4 * x3))))) (15)) (px_wr (x5 + 1)) else l_Least_thingOfWeek_9 s k64 n x1 (px_or (x2) ((px_shl (1) ((px_and ((px_shr ((s 147 (px_wr ((px_wr ((px_wr ((s 7 4) + x5)) * 128)) + x2)).toNat)) ((px_wr (4 * x3))))) (15)))))) (px_and ((px_shr ((s 147 (px_wr ((px_wr ((px_wr ((s 7 4) + x5)) * 128)) + x2)).toNat)) ((px_wr (4 * x3))))) (15)) (px_and ((px_shr ((s 147 (px_wr ((px_wr ((px_wr ((s 7 4) + x5)) * 128)) + x2)).toNat)) ((px_wr (4 * x3))))) (15)) (px_wr (x5 + 1))) else none)))
set_option maxHeartbeats 4000000 in
set_option maxRecDepth 100000 in
theorem cl_Least_thingOfWeek_9 {sc : List Int} {d : Nat} {s : px_Z} {k64 : Int → Option (Int)}  (hk64 : ∀ (y4 : Int) (out : Int), k64 y4 = some out → px_D sc (d + 0) 33 64 [(4, .inl (y4))] [] (px_G1, s) (px_Qp s out)) : ∀ (n : Nat) (x1 : Int) (x2 : Int) (x3 : Int) (x4 : Int) (x5 : Int) (out : Int), l_Least_thingOfWeek_9 s k64 n x1 x2 x3 x4 x5 = some out → px_D sc (d + 0) 33 9 [(0, .inr (.inr 145)), (1, .inl (x1)), (2, .inl (x2)), (3, .inl (x3)), (4, .inl (x4)), (5, .inl (x5))] [] (px_G1, s) (px_Qp s out) := by
  intro n
  induction n with
  | zero => intro x1 x2 x3 x4 x5 out h; cases h
  | succ n ih =>
    intro x1 x2 x3 x4 x5 out h
    rw [l_Least_thingOfWeek_9] at h
    refine px_D_st 2 (ip1 := 11) (ls1 := [(0, .inr (.inr 145)), (1, .inl (x1)), (2, .inl (x2)), (3, .inl (x3)), (4, .inl (x4)), (5, .inl (x5))]) (st1 := [.inl (x1), .inl (x5)]) (h1 := (px_G1, s)) rfl ?_
    refine px_D_icmp rfl (fun hc => ?_) (fun hc => ?_)
    · have hc1 : (x1) < (x5) := of_decide_eq_true hc
      rw [if_pos hc1] at h
      refine px_D_ls [(4, .inl (x4))] rfl rfl (List.forall_mem_cons.mpr ⟨rfl, fun _ h => absurd h List.not_mem_nil⟩) ?_
      exact hk64 _ _ h
    · have hc1 : ¬ ((x1) < (x5)) := of_decide_eq_false hc
      rw [if_neg hc1] at h
      refine px_D_st 7 (ip1 := 19) (ls1 := [(0, .inr (.inr 145)), (1, .inl (x1)), (2, .inl (x2)), (3, .inl (x3)), (4, .inl (x4)), (5, .inl (x5))]) (st1 := [.inl (60), .inl (px_wr ((s 7 4) + x5))]) (h1 := (px_G1, s)) rfl ?_
      refine px_D_icmp rfl (fun hc => ?_) (fun hc => ?_)
      · have hc2 : (60) < (px_wr ((s 7 4) + x5)) := of_decide_eq_true hc
        rw [if_pos hc2] at h
        refine px_D_ls [(4, .inl (x4))] rfl rfl (List.forall_mem_cons.mpr ⟨rfl, fun _ h => absurd h List.not_mem_nil⟩) ?_
        exact hk64 _ _ h
      · have hc2 : ¬ ((60) < (px_wr ((s 7 4) + x5))) := of_decide_eq_false hc
        rw [if_neg hc2] at h
        refine px_D_st 3 (ip1 := 23) (ls1 := [(0, .inr (.inr 145)), (1, .inl (x1)), (2, .inl (x2)), (3, .inl (x3)), (4, .inl (x4)), (5, .inl (x5))]) (st1 := [.inl (s 145 6), .inl (x2)]) (h1 := (px_G1, s)) rfl ?_
        refine px_D_icmp rfl (fun hc => ?_) (fun hc => ?_)
        · have hc3 : ¬ ((x2) = (s 145 6)) := of_decide_eq_true hc
          rw [if_neg hc3] at h
          refine px_D_st 12 (ip1 := 38) (ls1 := [(0, .inr (.inr 145)), (1, .inl (x1)), (2, .inl (x2)), (3, .inl (x3)), (4, .inl (x4)), (5, .inl (x5))]) (st1 := [.inl (px_wr ((px_wr ((px_wr ((s 7 4) + x5)) * 128)) + x2)), .inr (.inr 147)]) (h1 := (px_G1, s)) rfl ?_
          by_cases hc4 : 0 ≤ (px_wr ((px_wr ((px_wr ((s 7 4) + x5)) * 128)) + x2)) ∧ (px_wr ((px_wr ((px_wr ((s 7 4) + x5)) * 128)) + x2)) < 7808
          case neg => rw [if_neg hc4] at h; cases h
          rw [if_pos hc4] at h
          refine px_D_iald (k := 142) (n := 7808) rfl rfl hc4 ?_
          refine px_D_st 9 (ip1 := 48) (ls1 := [(4, .inl (px_and ((px_shr ((s 147 (px_wr ((px_wr ((px_wr ((s 7 4) + x5)) * 128)) + x2)).toNat)) ((px_wr (4 * x3))))) (15))), (0, .inr (.inr 145)), (1, .inl (x1)), (2, .inl (x2)), (3, .inl (x3)), (5, .inl (x5))]) (st1 := [.inl (8), .inl (px_and ((px_shr ((s 147 (px_wr ((px_wr ((px_wr ((s 7 4) + x5)) * 128)) + x2)).toNat)) ((px_wr (4 * x3))))) (15))]) (h1 := (px_G1, s)) rfl ?_
          refine px_D_icmp rfl (fun hc => ?_) (fun hc => ?_)
          · have hc5 : (8) ≤ (px_and ((px_shr ((s 147 (px_wr ((px_wr ((px_wr ((s 7 4) + x5)) * 128)) + x2)).toNat)) ((px_wr (4 * x3))))) (15)) := of_decide_eq_true hc
            rw [if_pos hc5] at h
            refine px_D_st 2 (ip1 := 9) (ls1 := [(5, .inl (px_wr (x5 + 1))), (4, .inl (px_and ((px_shr ((s 147 (px_wr ((px_wr ((px_wr ((s 7 4) + x5)) * 128)) + x2)).toNat)) ((px_wr (4 * x3))))) (15))), (0, .inr (.inr 145)), (1, .inl (x1)), (2, .inl (x2)), (3, .inl (x3))]) (st1 := []) (h1 := (px_G1, s)) rfl ?_
            refine px_D_ls [(0, .inr (.inr 145)), (1, .inl (x1)), (2, .inl (x2)), (3, .inl (x3)), (4, .inl (px_and ((px_shr ((s 147 (px_wr ((px_wr ((px_wr ((s 7 4) + x5)) * 128)) + x2)).toNat)) ((px_wr (4 * x3))))) (15))), (5, .inl (px_wr (x5 + 1)))] rfl rfl (List.forall_mem_cons.mpr ⟨rfl, List.forall_mem_cons.mpr ⟨rfl, List.forall_mem_cons.mpr ⟨rfl, List.forall_mem_cons.mpr ⟨rfl, List.forall_mem_cons.mpr ⟨rfl, List.forall_mem_cons.mpr ⟨rfl, fun _ h => absurd h List.not_mem_nil⟩⟩⟩⟩⟩⟩) ?_
            exact ih _ _ _ _ _ _ h
          · have hc5 : ¬ ((8) ≤ (px_and ((px_shr ((s 147 (px_wr ((px_wr ((px_wr ((s 7 4) + x5)) * 128)) + x2)).toNat)) ((px_wr (4 * x3))))) (15))) := of_decide_eq_false hc
            rw [if_neg hc5] at h
            refine px_D_st 8 (ip1 := 57) (ls1 := [(2, .inl (px_or (x2) ((px_shl (1) ((px_and ((px_shr ((s 147 (px_wr ((px_wr ((px_wr ((s 7 4) + x5)) * 128)) + x2)).toNat)) ((px_wr (4 * x3))))) (15))))))), (4, .inl (px_and ((px_shr ((s 147 (px_wr ((px_wr ((px_wr ((s 7 4) + x5)) * 128)) + x2)).toNat)) ((px_wr (4 * x3))))) (15))), (0, .inr (.inr 145)), (1, .inl (x1)), (3, .inl (x3)), (5, .inl (x5))]) (st1 := [.inl (s 145 9)]) (h1 := (px_G1, s)) rfl ?_
            refine px_D_ifc rfl (fun hc => ?_) (fun hc => ?_)
            · have hc6 : (s 145 9) = (0) := of_decide_eq_true hc
              rw [if_pos hc6] at h
              refine px_D_st 4 (ip1 := 9) (ls1 := [(5, .inl (px_wr (x5 + 1))), (3, .inl (0)), (2, .inl (px_or (x2) ((px_shl (1) ((px_and ((px_shr ((s 147 (px_wr ((px_wr ((px_wr ((s 7 4) + x5)) * 128)) + x2)).toNat)) ((px_wr (4 * x3))))) (15))))))), (4, .inl (px_and ((px_shr ((s 147 (px_wr ((px_wr ((px_wr ((s 7 4) + x5)) * 128)) + x2)).toNat)) ((px_wr (4 * x3))))) (15))), (0, .inr (.inr 145)), (1, .inl (x1))]) (st1 := []) (h1 := (px_G1, s)) rfl ?_
              refine px_D_ls [(0, .inr (.inr 145)), (1, .inl (x1)), (2, .inl (px_or (x2) ((px_shl (1) ((px_and ((px_shr ((s 147 (px_wr ((px_wr ((px_wr ((s 7 4) + x5)) * 128)) + x2)).toNat)) ((px_wr (4 * x3))))) (15))))))), (3, .inl (0)), (4, .inl (px_and ((px_shr ((s 147 (px_wr ((px_wr ((px_wr ((s 7 4) + x5)) * 128)) + x2)).toNat)) ((px_wr (4 * x3))))) (15))), (5, .inl (px_wr (x5 + 1)))] rfl rfl (List.forall_mem_cons.mpr ⟨rfl, List.forall_mem_cons.mpr ⟨rfl, List.forall_mem_cons.mpr ⟨rfl, List.forall_mem_cons.mpr ⟨rfl, List.forall_mem_cons.mpr ⟨rfl, List.forall_mem_cons.mpr ⟨rfl, fun _ h => absurd h List.not_mem_nil⟩⟩⟩⟩⟩⟩) ?_
              exact ih _ _ _ _ _ _ h
            · have hc6 : ¬ ((s 145 9) = (0)) := of_decide_eq_false hc
              rw [if_neg hc6] at h
              refine px_D_st 5 (ip1 := 9) (ls1 := [(5, .inl (px_wr (x5 + 1))), (3, .inl (px_and ((px_shr ((s 147 (px_wr ((px_wr ((px_wr ((s 7 4) + x5)) * 128)) + x2)).toNat)) ((px_wr (4 * x3))))) (15))), (2, .inl (px_or (x2) ((px_shl (1) ((px_and ((px_shr ((s 147 (px_wr ((px_wr ((px_wr ((s 7 4) + x5)) * 128)) + x2)).toNat)) ((px_wr (4 * x3))))) (15))))))), (4, .inl (px_and ((px_shr ((s 147 (px_wr ((px_wr ((px_wr ((s 7 4) + x5)) * 128)) + x2)).toNat)) ((px_wr (4 * x3))))) (15))), (0, .inr (.inr 145)), (1, .inl (x1))]) (st1 := []) (h1 := (px_G1, s)) rfl ?_
              refine px_D_ls [(0, .inr (.inr 145)), (1, .inl (x1)), (2, .inl (px_or (x2) ((px_shl (1) ((px_and ((px_shr ((s 147 (px_wr ((px_wr ((px_wr ((s 7 4) + x5)) * 128)) + x2)).toNat)) ((px_wr (4 * x3))))) (15))))))), (3, .inl (px_and ((px_shr ((s 147 (px_wr ((px_wr ((px_wr ((s 7 4) + x5)) * 128)) + x2)).toNat)) ((px_wr (4 * x3))))) (15))), (4, .inl (px_and ((px_shr ((s 147 (px_wr ((px_wr ((px_wr ((s 7 4) + x5)) * 128)) + x2)).toNat)) ((px_wr (4 * x3))))) (15))), (5, .inl (px_wr (x5 + 1)))] rfl rfl (List.forall_mem_cons.mpr ⟨rfl, List.forall_mem_cons.mpr ⟨rfl, List.forall_mem_cons.mpr ⟨rfl, List.forall_mem_cons.mpr ⟨rfl, List.forall_mem_cons.mpr ⟨rfl, List.forall_mem_cons.mpr ⟨rfl, fun _ h => absurd h List.not_mem_nil⟩⟩⟩⟩⟩⟩) ?_
              exact ih _ _ _ _ _ _ h
        · have hc3 : (x2) = (s 145 6) := Decidable.of_not_not (of_decide_eq_false hc)
          rw [if_pos hc3] at h
          refine px_D_st 5 (ip1 := 48) (ls1 := [(4, .inl (8)), (0, .inr (.inr 145)), (1, .inl (x1)), (2, .inl (x2)), (3, .inl (x3)), (5, .inl (x5))]) (st1 := [.inl (8), .inl (8)]) (h1 := (px_G1, s)) rfl ?_
          refine px_D_icmp rfl (fun hc => ?_) (fun hc => ?_)
          · have hc7 : (8) ≤ (8) := of_decide_eq_true hc
            rw [if_pos hc7] at h
            refine px_D_st 2 (ip1 := 9) (ls1 := [(5, .inl (px_wr (x5 + 1))), (4, .inl (8)), (0, .inr (.inr 145)), (1, .inl (x1)), (2, .inl (x2)), (3, .inl (x3))]) (st1 := []) (h1 := (px_G1, s)) rfl ?_
            refine px_D_ls [(0, .inr (.inr 145)), (1, .inl (x1)), (2, .inl (x2)), (3, .inl (x3)), (4, .inl (8)), (5, .inl (px_wr (x5 + 1)))] rfl rfl (List.forall_mem_cons.mpr ⟨rfl, List.forall_mem_cons.mpr ⟨rfl, List.forall_mem_cons.mpr ⟨rfl, List.forall_mem_cons.mpr ⟨rfl, List.forall_mem_cons.mpr ⟨rfl, List.forall_mem_cons.mpr ⟨rfl, fun _ h => absurd h List.not_mem_nil⟩⟩⟩⟩⟩⟩) ?_
            exact ih _ _ _ _ _ _ h
          · have hc7 : ¬ ((8) ≤ (8)) := of_decide_eq_false hc
            rw [if_neg hc7] at h
            refine px_D_st 8 (ip1 := 57) (ls1 := [(2, .inl (px_or (x2) ((px_shl (1) (8))))), (4, .inl (8)), (0, .inr (.inr 145)), (1, .inl (x1)), (3, .inl (x3)), (5, .inl (x5))]) (st1 := [.inl (s 145 9)]) (h1 := (px_G1, s)) rfl ?_
            refine px_D_ifc rfl (fun hc => ?_) (fun hc => ?_)
            · have hc8 : (s 145 9) = (0) := of_decide_eq_true hc
              rw [if_pos hc8] at h
              refine px_D_st 4 (ip1 := 9) (ls1 := [(5, .inl (px_wr (x5 + 1))), (3, .inl (0)), (2, .inl (px_or (x2) ((px_shl (1) (8))))), (4, .inl (8)), (0, .inr (.inr 145)), (1, .inl (x1))]) (st1 := []) (h1 := (px_G1, s)) rfl ?_
              refine px_D_ls [(0, .inr (.inr 145)), (1, .inl (x1)), (2, .inl (px_or (x2) ((px_shl (1) (8))))), (3, .inl (0)), (4, .inl (8)), (5, .inl (px_wr (x5 + 1)))] rfl rfl (List.forall_mem_cons.mpr ⟨rfl, List.forall_mem_cons.mpr ⟨rfl, List.forall_mem_cons.mpr ⟨rfl, List.forall_mem_cons.mpr ⟨rfl, List.forall_mem_cons.mpr ⟨rfl, List.forall_mem_cons.mpr ⟨rfl, fun _ h => absurd h List.not_mem_nil⟩⟩⟩⟩⟩⟩) ?_
              exact ih _ _ _ _ _ _ h
            · have hc8 : ¬ ((s 145 9) = (0)) := of_decide_eq_false hc
              rw [if_neg hc8] at h
              refine px_D_st 5 (ip1 := 9) (ls1 := [(5, .inl (px_wr (x5 + 1))), (3, .inl (8)), (2, .inl (px_or (x2) ((px_shl (1) (8))))), (4, .inl (8)), (0, .inr (.inr 145)), (1, .inl (x1))]) (st1 := []) (h1 := (px_G1, s)) rfl ?_
              refine px_D_ls [(0, .inr (.inr 145)), (1, .inl (x1)), (2, .inl (px_or (x2) ((px_shl (1) (8))))), (3, .inl (8)), (4, .inl (8)), (5, .inl (px_wr (x5 + 1)))] rfl rfl (List.forall_mem_cons.mpr ⟨rfl, List.forall_mem_cons.mpr ⟨rfl, List.forall_mem_cons.mpr ⟨rfl, List.forall_mem_cons.mpr ⟨rfl, List.forall_mem_cons.mpr ⟨rfl, List.forall_mem_cons.mpr ⟨rfl, fun _ h => absurd h List.not_mem_nil⟩⟩⟩⟩⟩⟩) ?_
              exact ih _ _ _ _ _ _ h
def f_Least_thingOfWeek (s : px_Z) (x1 : Int) : Option (Int) := l_Least_thingOfWeek_9 s (fun x4 => if (8) ≤ (x4) then some (-1) else some x4) px_big x1 (s 145 5) 0 8 0
set_option maxHeartbeats 4000000 in
set_option maxRecDepth 100000 in
theorem c_Least_thingOfWeek {sc : List Int} {d : Nat} {s : px_Z} {x1 : Int} {out : Int} (h : f_Least_thingOfWeek s x1 = some out) : px_D sc (d + 0) 33 0 [(0, .inr (.inr 145)), (1, .inl (x1))] [] (px_G1, s) (px_Qp s out) := by
  unfold f_Least_thingOfWeek at h
  refine px_D_st 9 (ip1 := 9) (ls1 := [(5, .inl (0)), (4, .inl (8)), (3, .inl (0)), (2, .inl (s 145 5)), (0, .inr (.inr 145)), (1, .inl (x1))]) (st1 := []) (h1 := (px_G1, s)) rfl ?_
  refine px_D_ls [(0, .inr (.inr 145)), (1, .inl (x1)), (2, .inl (s 145 5)), (3, .inl (0)), (4, .inl (8)), (5, .inl (0))] rfl rfl (List.forall_mem_cons.mpr ⟨rfl, List.forall_mem_cons.mpr ⟨rfl, List.forall_mem_cons.mpr ⟨rfl, List.forall_mem_cons.mpr ⟨rfl, List.forall_mem_cons.mpr ⟨rfl, List.forall_mem_cons.mpr ⟨rfl, fun _ h => absurd h List.not_mem_nil⟩⟩⟩⟩⟩⟩) ?_
  refine cl_Least_thingOfWeek_9 ?_ px_big _ _ _ _ _ _ h
  · intro x4 out h
    refine px_D_st 2 (ip1 := 66) (ls1 := [(4, .inl (x4))]) (st1 := [.inl (8), .inl (x4)]) (h1 := (px_G1, s)) rfl ?_
    refine px_D_icmp rfl (fun hc => ?_) (fun hc => ?_)
    · have hc9 : (8) ≤ (x4) := of_decide_eq_true hc
      rw [if_pos hc9] at h
      refine px_D_st 1 (ip1 := 70) (ls1 := [(4, .inl (x4))]) (st1 := [.inl ((-1))]) (h1 := (px_G1, s)) rfl ?_
      cases h
      exact px_D_iret rfl rfl ⟨rfl, rfl⟩
    · have hc9 : ¬ ((8) ≤ (x4)) := of_decide_eq_false hc
      rw [if_neg hc9] at h
      refine px_D_st 2 (ip1 := 70) (ls1 := [(4, .inl (x4))]) (st1 := [.inl (x4)]) (h1 := (px_G1, s)) rfl ?_
      cases h
      exact px_D_iret rfl rfl ⟨rfl, rfl⟩

def f_Least_priceAt (s : px_Z) (x0 : Int) (x1 : Int) (x2 : Int) : Int := px_wr ((px_wr ((px_wr ((px_wr (x0 * 8)) + x1)) * 8)) + x2)
set_option maxHeartbeats 4000000 in
set_option maxRecDepth 100000 in
theorem c_Least_priceAt {sc : List Int} {d : Nat} {s : px_Z} {x0 : Int} {x1 : Int} {x2 : Int} {out : Int} (h : f_Least_priceAt s x0 x1 x2 = out) : px_D sc (d + 0) 29 0 [(0, .inl (x0)), (1, .inl (x1)), (2, .inl (x2))] [] (px_G1, s) (px_Qp s out) := by
  unfold f_Least_priceAt at h
  refine px_D_st 9 (ip1 := 9) (ls1 := [(0, .inl (x0)), (1, .inl (x1)), (2, .inl (x2))]) (st1 := [.inl (px_wr ((px_wr ((px_wr ((px_wr (x0 * 8)) + x1)) * 8)) + x2))]) (h1 := (px_G1, s)) rfl ?_
  subst h
  exact px_D_iret rfl rfl ⟨rfl, rfl⟩

def f_Least_columnOf (s : px_Z) (x1 : Int) : Int := if (s 145 8) = (0) then f_Math_min s x1 (px_wr ((f_Integer_bitCount s (s 145 5)) + 1)) else x1
set_option maxHeartbeats 4000000 in
set_option maxRecDepth 100000 in
theorem c_Least_columnOf {sc : List Int} {d : Nat} {s : px_Z} {x1 : Int} {out : Int} (h : f_Least_columnOf s x1 = out) : px_D sc (d + 1) 27 0 [(0, .inr (.inr 145)), (1, .inl (x1))] [] (px_G1, s) (px_Qp s out) := by
  unfold f_Least_columnOf at h
  refine px_D_st 2 (ip1 := 2) (ls1 := [(0, .inr (.inr 145)), (1, .inl (x1))]) (st1 := [.inl (s 145 8)]) (h1 := (px_G1, s)) rfl ?_
  refine px_D_ifc rfl (fun hc => ?_) (fun hc => ?_)
  · have hc1 : (s 145 8) = (0) := of_decide_eq_true hc
    rw [if_pos hc1] at h
    refine px_D_st 3 (ip1 := 8) (ls1 := [(0, .inr (.inr 145)), (1, .inl (x1))]) (st1 := [.inl (s 145 5), .inl (x1)]) (h1 := (px_G1, s)) rfl ?_
    refine px_D_call (as := [.inl (s 145 5)]) (rest := [.inl (x1)]) rfl rfl rfl rfl ?_
    refine px_D_mono (c_Integer_bitCount (d := d + 0) rfl) ?_
    rintro _ _ ⟨rfl, rfl⟩
    show px_D sc (d + 1) 27 9 [(0, .inr (.inr 145)), (1, .inl (x1))] [.inl (f_Integer_bitCount s (s 145 5)), .inl (x1)] (px_G1, s) _
    refine px_D_st 2 (ip1 := 11) (ls1 := [(0, .inr (.inr 145)), (1, .inl (x1))]) (st1 := [.inl (px_wr ((f_Integer_bitCount s (s 145 5)) + 1)), .inl (x1)]) (h1 := (px_G1, s)) rfl ?_
    refine px_D_call (as := [.inl (x1), .inl (px_wr ((f_Integer_bitCount s (s 145 5)) + 1))]) (rest := []) rfl rfl rfl rfl ?_
    refine px_D_mono (c_Math_min (d := d + 0) rfl) ?_
    rintro _ _ ⟨rfl, rfl⟩
    show px_D sc (d + 1) 27 12 [(0, .inr (.inr 145)), (1, .inl (x1))] [.inl (f_Math_min s x1 (px_wr ((f_Integer_bitCount s (s 145 5)) + 1)))] (px_G1, s) _
    subst h
    exact px_D_iret rfl rfl ⟨rfl, rfl⟩
  · have hc1 : ¬ ((s 145 8) = (0)) := of_decide_eq_false hc
    rw [if_neg hc1] at h
    refine px_D_st 2 (ip1 := 12) (ls1 := [(0, .inr (.inr 145)), (1, .inl (x1))]) (st1 := [.inl (x1)]) (h1 := (px_G1, s)) rfl ?_
    subst h
    exact px_D_iret rfl rfl ⟨rfl, rfl⟩

def l_Least_askPrices_52 (k86 : px_Z → Int → Int → Int → Int → Option (px_Z)) : Nat → px_Z → Int → Int → Int → Int → Int → Int → Option (px_Z)
  | 0, _, _, _, _, _, _, _ => none
  | n + 1, s, x1, x2, x3, x4, x5, x6 => if (x5) ≤ (x6) then k86 s x1 x2 x3 x4 else (if (x4) = (x1) then (f_World_lastWorth s ).bind (fun q10 => (f_World_priceThen s x2 (s 145 7) x4 q10 x3).bind (fun q11 => if 0 ≤ (f_Least_priceAt s x2 x4 x6) ∧ (f_Least_priceAt s x2 x4 x6) < 512 then l_Least_askPrices_52 k86 n (px_up q11.2 148 (f_Least_priceAt s x2 x4 x6).toNat q11.1) x1 x2 x3 x4 x5 (px_wr (x6 + 1)) else none)) else (if 0 ≤ (x6) ∧ (x6) < 8 then (f_World_priceThen s x2 (s 145 7) x4 (s 12 x6.toNat) x3).bind (fun q8 => if 0 ≤ (f_Least_priceAt s x2 x4 x6) ∧ (f_Least_priceAt s x2 x4 x6) < 512 then l_Least_askPrices_52 k86 n (px_up q8.2 148 (f_Least_priceAt s x2 x4 x6).toNat q8.1) x1 x2 x3 x4 x5 (px_wr (x6 + 1)) else none) else none))
set_option maxHeartbeats 4000000 in
set_option maxRecDepth 100000 in
theorem cl_Least_askPrices_52 {sc : List Int} {d : Nat} {k86 : px_Z → Int → Int → Int → Int → Option (px_Z)}  (hk86 : ∀ (s : px_Z) (y1 : Int) (y2 : Int) (y3 : Int) (y4 : Int) (out : px_Z), k86 s y1 y2 y3 y4 = some out → px_D sc (d + 4) 28 86 [(0, .inr (.inr 145)), (1, .inl (y1)), (2, .inl (y2)), (3, .inl (y3)), (4, .inl (y4))] [] (px_G1, s) (px_Qv out)) : ∀ (n : Nat) (s : px_Z) (x1 : Int) (x2 : Int) (x3 : Int) (x4 : Int) (x5 : Int) (x6 : Int) (out : px_Z), l_Least_askPrices_52 k86 n s x1 x2 x3 x4 x5 x6 = some out → px_D sc (d + 4) 28 52 [(0, .inr (.inr 145)), (1, .inl (x1)), (2, .inl (x2)), (3, .inl (x3)), (4, .inl (x4)), (5, .inl (x5)), (6, .inl (x6))] [] (px_G1, s) (px_Qv out) := by
  intro n
  induction n with
  | zero => intro s x1 x2 x3 x4 x5 x6 out h; cases h
  | succ n ih =>
    intro s x1 x2 x3 x4 x5 x6 out h
    rw [l_Least_askPrices_52] at h
    refine px_D_st 2 (ip1 := 54) (ls1 := [(0, .inr (.inr 145)), (1, .inl (x1)), (2, .inl (x2)), (3, .inl (x3)), (4, .inl (x4)), (5, .inl (x5)), (6, .inl (x6))]) (st1 := [.inl (x5), .inl (x6)]) (h1 := (px_G1, s)) rfl ?_
    refine px_D_icmp rfl (fun hc => ?_) (fun hc => ?_)
    · have hc5 : (x5) ≤ (x6) := of_decide_eq_true hc
      rw [if_pos hc5] at h
      refine px_D_ls [(0, .inr (.inr 145)), (1, .inl (x1)), (2, .inl (x2)), (3, .inl (x3)), (4, .inl (x4))] rfl rfl (List.forall_mem_cons.mpr ⟨rfl, List.forall_mem_cons.mpr ⟨rfl, List.forall_mem_cons.mpr ⟨rfl, List.forall_mem_cons.mpr ⟨rfl, List.forall_mem_cons.mpr ⟨rfl, fun _ h => absurd h List.not_mem_nil⟩⟩⟩⟩⟩) ?_
      exact hk86 _ _ _ _ _ _ h
    · have hc5 : ¬ ((x5) ≤ (x6)) := of_decide_eq_false hc
      rw [if_neg hc5] at h
      refine px_D_st 2 (ip1 := 57) (ls1 := [(0, .inr (.inr 145)), (1, .inl (x1)), (2, .inl (x2)), (3, .inl (x3)), (4, .inl (x4)), (5, .inl (x5)), (6, .inl (x6))]) (st1 := [.inl (x1), .inl (x4)]) (h1 := (px_G1, s)) rfl ?_
      refine px_D_icmp rfl (fun hc => ?_) (fun hc => ?_)
      · have hc6 : ¬ ((x4) = (x1)) := of_decide_eq_true hc
        rw [if_neg hc6] at h
        refine px_D_st 4 (ip1 := 66) (ls1 := [(0, .inr (.inr 145)), (1, .inl (x1)), (2, .inl (x2)), (3, .inl (x3)), (4, .inl (x4)), (5, .inl (x5)), (6, .inl (x6))]) (st1 := [.inl (x6), .inr (.inr 12)]) (h1 := (px_G1, s)) rfl ?_
        by_cases hc7 : 0 ≤ (x6) ∧ (x6) < 8
        case neg => rw [if_neg hc7] at h; cases h
        rw [if_pos hc7] at h
        refine px_D_iald (k := 7) (n := 8) rfl rfl hc7 ?_
        refine px_D_st 6 (ip1 := 73) (ls1 := [(7, .inl (s 12 x6.toNat)), (0, .inr (.inr 145)), (1, .inl (x1)), (2, .inl (x2)), (3, .inl (x3)), (4, .inl (x4)), (5, .inl (x5)), (6, .inl (x6))]) (st1 := [.inl (x6), .inl (x4), .inl (x2), .inr (.inr 148)]) (h1 := (px_G1, s)) rfl ?_
        refine px_D_call (as := [.inl (x2), .inl (x4), .inl (x6)]) (rest := [.inr (.inr 148)]) rfl rfl rfl rfl ?_
        refine px_D_mono (c_Least_priceAt (d := d + 3) rfl) ?_
        rintro _ _ ⟨rfl, rfl⟩
        show px_D sc (d + 4) 28 74 [(7, .inl (s 12 x6.toNat)), (0, .inr (.inr 145)), (1, .inl (x1)), (2, .inl (x2)), (3, .inl (x3)), (4, .inl (x4)), (5, .inl (x5)), (6, .inl (x6))] [.inl (f_Least_priceAt s x2 x4 x6), .inr (.inr 148)] (px_G1, s) _
        refine px_D_st 8 (ip1 := 82) (ls1 := [(7, .inl (s 12 x6.toNat)), (0, .inr (.inr 145)), (1, .inl (x1)), (2, .inl (x2)), (3, .inl (x3)), (4, .inl (x4)), (5, .inl (x5)), (6, .inl (x6))]) (st1 := [.inl (x3), .inl (s 12 x6.toNat), .inl (x4), .inl (s 145 7), .inl (x2), .inr (.inr 6), .inl (f_Least_priceAt s x2 x4 x6), .inr (.inr 148)]) (h1 := (px_G1, s)) rfl ?_
        refine px_D_call (as := [.inr (.inr 6), .inl (x2), .inl (s 145 7), .inl (x4), .inl (s 12 x6.toNat), .inl (x3)]) (rest := [.inl (f_Least_priceAt s x2 x4 x6), .inr (.inr 148)]) rfl rfl rfl rfl ?_
        obtain ⟨q8, hq8, h⟩ := Option.bind_eq_some_iff.mp h
        refine px_D_mono (c_World_priceThen (d := d + 0) hq8) ?_
        rintro _ _ ⟨rfl, rfl⟩
        show px_D sc (d + 4) 28 83 [(7, .inl (s 12 x6.toNat)), (0, .inr (.inr 145)), (1, .inl (x1)), (2, .inl (x2)), (3, .inl (x3)), (4, .inl (x4)), (5, .inl (x5)), (6, .inl (x6))] [.inl (q8.1), .inl (f_Least_priceAt s x2 x4 x6), .inr (.inr 148)] (px_G1, q8.2) _
        by_cases hc9 : 0 ≤ (f_Least_priceAt s x2 x4 x6) ∧ (f_Least_priceAt s x2 x4 x6) < 512
        case neg => rw [if_neg hc9] at h; cases h
        rw [if_pos hc9] at h
        refine px_D_iast (k := 143) (n := 512) rfl rfl hc9 ?_
        refine px_D_st 2 (ip1 := 52) (ls1 := [(6, .inl (px_wr (x6 + 1))), (7, .inl (s 12 x6.toNat)), (0, .inr (.inr 145)), (1, .inl (x1)), (2, .inl (x2)), (3, .inl (x3)), (4, .inl (x4)), (5, .inl (x5))]) (st1 := []) (h1 := (px_G1, px_up q8.2 148 (f_Least_priceAt s x2 x4 x6).toNat q8.1)) rfl ?_
        refine px_D_ls [(0, .inr (.inr 145)), (1, .inl (x1)), (2, .inl (x2)), (3, .inl (x3)), (4, .inl (x4)), (5, .inl (x5)), (6, .inl (px_wr (x6 + 1)))] rfl rfl (List.forall_mem_cons.mpr ⟨rfl, List.forall_mem_cons.mpr ⟨rfl, List.forall_mem_cons.mpr ⟨rfl, List.forall_mem_cons.mpr ⟨rfl, List.forall_mem_cons.mpr ⟨rfl, List.forall_mem_cons.mpr ⟨rfl, List.forall_mem_cons.mpr ⟨rfl, fun _ h => absurd h List.not_mem_nil⟩⟩⟩⟩⟩⟩⟩) ?_
        exact ih _ _ _ _ _ _ _ _ h
      · have hc6 : (x4) = (x1) := Decidable.of_not_not (of_decide_eq_false hc)
        rw [if_pos hc6] at h
        refine px_D_st 2 (ip1 := 60) (ls1 := [(0, .inr (.inr 145)), (1, .inl (x1)), (2, .inl (x2)), (3, .inl (x3)), (4, .inl (x4)), (5, .inl (x5)), (6, .inl (x6))]) (st1 := [.inr (.inr 6)]) (h1 := (px_G1, s)) rfl ?_
        refine px_D_call (as := [.inr (.inr 6)]) (rest := []) rfl rfl rfl rfl ?_
        obtain ⟨q10, hq10, h⟩ := Option.bind_eq_some_iff.mp h
        refine px_D_mono (c_World_lastWorth (d := d + 3) hq10) ?_
        rintro _ _ ⟨rfl, rfl⟩
        show px_D sc (d + 4) 28 61 [(0, .inr (.inr 145)), (1, .inl (x1)), (2, .inl (x2)), (3, .inl (x3)), (4, .inl (x4)), (5, .inl (x5)), (6, .inl (x6))] [.inl (q10)] (px_G1, s) _
        refine px_D_st 7 (ip1 := 73) (ls1 := [(7, .inl (q10)), (0, .inr (.inr 145)), (1, .inl (x1)), (2, .inl (x2)), (3, .inl (x3)), (4, .inl (x4)), (5, .inl (x5)), (6, .inl (x6))]) (st1 := [.inl (x6), .inl (x4), .inl (x2), .inr (.inr 148)]) (h1 := (px_G1, s)) rfl ?_
        refine px_D_call (as := [.inl (x2), .inl (x4), .inl (x6)]) (rest := [.inr (.inr 148)]) rfl rfl rfl rfl ?_
        refine px_D_mono (c_Least_priceAt (d := d + 3) rfl) ?_
        rintro _ _ ⟨rfl, rfl⟩
        show px_D sc (d + 4) 28 74 [(7, .inl (q10)), (0, .inr (.inr 145)), (1, .inl (x1)), (2, .inl (x2)), (3, .inl (x3)), (4, .inl (x4)), (5, .inl (x5)), (6, .inl (x6))] [.inl (f_Least_priceAt s x2 x4 x6), .inr (.inr 148)] (px_G1, s) _
        refine px_D_st 8 (ip1 := 82) (ls1 := [(7, .inl (q10)), (0, .inr (.inr 145)), (1, .inl (x1)), (2, .inl (x2)), (3, .inl (x3)), (4, .inl (x4)), (5, .inl (x5)), (6, .inl (x6))]) (st1 := [.inl (x3), .inl (q10), .inl (x4), .inl (s 145 7), .inl (x2), .inr (.inr 6), .inl (f_Least_priceAt s x2 x4 x6), .inr (.inr 148)]) (h1 := (px_G1, s)) rfl ?_
        refine px_D_call (as := [.inr (.inr 6), .inl (x2), .inl (s 145 7), .inl (x4), .inl (q10), .inl (x3)]) (rest := [.inl (f_Least_priceAt s x2 x4 x6), .inr (.inr 148)]) rfl rfl rfl rfl ?_
        obtain ⟨q11, hq11, h⟩ := Option.bind_eq_some_iff.mp h
        refine px_D_mono (c_World_priceThen (d := d + 0) hq11) ?_
        rintro _ _ ⟨rfl, rfl⟩
        show px_D sc (d + 4) 28 83 [(7, .inl (q10)), (0, .inr (.inr 145)), (1, .inl (x1)), (2, .inl (x2)), (3, .inl (x3)), (4, .inl (x4)), (5, .inl (x5)), (6, .inl (x6))] [.inl (q11.1), .inl (f_Least_priceAt s x2 x4 x6), .inr (.inr 148)] (px_G1, q11.2) _
        by_cases hc12 : 0 ≤ (f_Least_priceAt s x2 x4 x6) ∧ (f_Least_priceAt s x2 x4 x6) < 512
        case neg => rw [if_neg hc12] at h; cases h
        rw [if_pos hc12] at h
        refine px_D_iast (k := 143) (n := 512) rfl rfl hc12 ?_
        refine px_D_st 2 (ip1 := 52) (ls1 := [(6, .inl (px_wr (x6 + 1))), (7, .inl (q10)), (0, .inr (.inr 145)), (1, .inl (x1)), (2, .inl (x2)), (3, .inl (x3)), (4, .inl (x4)), (5, .inl (x5))]) (st1 := []) (h1 := (px_G1, px_up q11.2 148 (f_Least_priceAt s x2 x4 x6).toNat q11.1)) rfl ?_
        refine px_D_ls [(0, .inr (.inr 145)), (1, .inl (x1)), (2, .inl (x2)), (3, .inl (x3)), (4, .inl (x4)), (5, .inl (x5)), (6, .inl (px_wr (x6 + 1)))] rfl rfl (List.forall_mem_cons.mpr ⟨rfl, List.forall_mem_cons.mpr ⟨rfl, List.forall_mem_cons.mpr ⟨rfl, List.forall_mem_cons.mpr ⟨rfl, List.forall_mem_cons.mpr ⟨rfl, List.forall_mem_cons.mpr ⟨rfl, List.forall_mem_cons.mpr ⟨rfl, fun _ h => absurd h List.not_mem_nil⟩⟩⟩⟩⟩⟩⟩) ?_
        exact ih _ _ _ _ _ _ _ _ h
def l_Least_askPrices_29 (k88 : px_Z → Int → Int → Option (px_Z)) : Nat → px_Z → Int → Int → Int → Int → Option (px_Z)
  | 0, _, _, _, _, _ => none
  | n + 1, s, x1, x2, x3, x4 => if (f_Least_columnOf s (px_wr ((s 6 1) - 1))) < (x4) then k88 s x1 x2 else (if (x4) ≤ (x1) then l_Least_askPrices_52 (fun s x1 x2 x3 x4 => l_Least_askPrices_29 k88 n s x1 x2 x3 (px_wr (x4 + 1))) px_big s x1 x2 x3 x4 1 0 else (if (s 145 9) = (0) then l_Least_askPrices_52 (fun s x1 x2 x3 x4 => l_Least_askPrices_29 k88 n s x1 x2 x3 (px_wr (x4 + 1))) px_big s x1 x2 x3 x4 1 0 else l_Least_askPrices_52 (fun s x1 x2 x3 x4 => l_Least_askPrices_29 k88 n s x1 x2 x3 (px_wr (x4 + 1))) px_big s x1 x2 x3 x4 (s 6 1) 0))
set_option maxHeartbeats 4000000 in
set_option maxRecDepth 100000 in
theorem cl_Least_askPrices_29 {sc : List Int} {d : Nat} {k88 : px_Z → Int → Int → Option (px_Z)}  (hk88 : ∀ (s : px_Z) (y1 : Int) (y2 : Int) (out : px_Z), k88 s y1 y2 = some out → px_D sc (d + 4) 28 88 [(0, .inr (.inr 145)), (1, .inl (y1)), (2, .inl (y2))] [] (px_G1, s) (px_Qv out)) : ∀ (n : Nat) (s : px_Z) (x1 : Int) (x2 : Int) (x3 : Int) (x4 : Int) (out : px_Z), l_Least_askPrices_29 k88 n s x1 x2 x3 x4 = some out → px_D sc (d + 4) 28 29 [(0, .inr (.inr 145)), (1, .inl (x1)), (2, .inl (x2)), (3, .inl (x3)), (4, .inl (x4))] [] (px_G1, s) (px_Qv out) := by
  intro n
  induction n with
  | zero => intro s x1 x2 x3 x4 out h; cases h
  | succ n ih =>
    intro s x1 x2 x3 x4 out h
    rw [l_Least_askPrices_29] at h
    refine px_D_st 7 (ip1 := 36) (ls1 := [(0, .inr (.inr 145)), (1, .inl (x1)), (2, .inl (x2)), (3, .inl (x3)), (4, .inl (x4))]) (st1 := [.inl (px_wr ((s 6 1) - 1)), .inr (.inr 145), .inl (x4)]) (h1 := (px_G1, s)) rfl ?_
    refine px_D_call (as := [.inr (.inr 145), .inl (px_wr ((s 6 1) - 1))]) (rest := [.inl (x4)]) rfl rfl rfl rfl ?_
    refine px_D_mono (c_Least_columnOf (d := d + 2) rfl) ?_
    rintro _ _ ⟨rfl, rfl⟩
    show px_D sc (d + 4) 28 37 [(0, .inr (.inr 145)), (1, .inl (x1)), (2, .inl (x2)), (3, .inl (x3)), (4, .inl (x4))] [.inl (f_Least_columnOf s (px_wr ((s 6 1) - 1))), .inl (x4)] (px_G1, s) _
    refine px_D_icmp rfl (fun hc => ?_) (fun hc => ?_)
    · have hc3 : (f_Least_columnOf s (px_wr ((s 6 1) - 1))) < (x4) := of_decide_eq_true hc
      rw [if_pos hc3] at h
      refine px_D_ls [(0, .inr (.inr 145)), (1, .inl (x1)), (2, .inl (x2))] rfl rfl (List.forall_mem_cons.mpr ⟨rfl, List.forall_mem_cons.mpr ⟨rfl, List.forall_mem_cons.mpr ⟨rfl, fun _ h => absurd h List.not_mem_nil⟩⟩⟩) ?_
      exact hk88 _ _ _ _ h
    · have hc3 : ¬ ((f_Least_columnOf s (px_wr ((s 6 1) - 1))) < (x4)) := of_decide_eq_false hc
      rw [if_neg hc3] at h
      refine px_D_st 2 (ip1 := 40) (ls1 := [(0, .inr (.inr 145)), (1, .inl (x1)), (2, .inl (x2)), (3, .inl (x3)), (4, .inl (x4))]) (st1 := [.inl (x1), .inl (x4)]) (h1 := (px_G1, s)) rfl ?_
      refine px_D_icmp rfl (fun hc => ?_) (fun hc => ?_)
      · have hc4 : (x4) ≤ (x1) := of_decide_eq_true hc
        rw [if_pos hc4] at h
        refine px_D_st 4 (ip1 := 52) (ls1 := [(6, .inl (0)), (5, .inl (1)), (0, .inr (.inr 145)), (1, .inl (x1)), (2, .inl (x2)), (3, .inl (x3)), (4, .inl (x4))]) (st1 := []) (h1 := (px_G1, s)) rfl ?_
        refine px_D_ls [(0, .inr (.inr 145)), (1, .inl (x1)), (2, .inl (x2)), (3, .inl (x3)), (4, .inl (x4)), (5, .inl (1)), (6, .inl (0))] rfl rfl (List.forall_mem_cons.mpr ⟨rfl, List.forall_mem_cons.mpr ⟨rfl, List.forall_mem_cons.mpr ⟨rfl, List.forall_mem_cons.mpr ⟨rfl, List.forall_mem_cons.mpr ⟨rfl, List.forall_mem_cons.mpr ⟨rfl, List.forall_mem_cons.mpr ⟨rfl, fun _ h => absurd h List.not_mem_nil⟩⟩⟩⟩⟩⟩⟩) ?_
        refine cl_Least_askPrices_52 ?_ px_big _ _ _ _ _ _ _ _ h
        · intro s x1 x2 x3 x4 out h
          refine px_D_st 2 (ip1 := 29) (ls1 := [(4, .inl (px_wr (x4 + 1))), (0, .inr (.inr 145)), (1, .inl (x1)), (2, .inl (x2)), (3, .inl (x3))]) (st1 := []) (h1 := (px_G1, s)) rfl ?_
          refine px_D_ls [(0, .inr (.inr 145)), (1, .inl (x1)), (2, .inl (x2)), (3, .inl (x3)), (4, .inl (px_wr (x4 + 1)))] rfl rfl (List.forall_mem_cons.mpr ⟨rfl, List.forall_mem_cons.mpr ⟨rfl, List.forall_mem_cons.mpr ⟨rfl, List.forall_mem_cons.mpr ⟨rfl, List.forall_mem_cons.mpr ⟨rfl, fun _ h => absurd h List.not_mem_nil⟩⟩⟩⟩⟩) ?_
          exact ih _ _ _ _ _ _ h
      · have hc4 : ¬ ((x4) ≤ (x1)) := of_decide_eq_false hc
        rw [if_neg hc4] at h
        refine px_D_st 2 (ip1 := 43) (ls1 := [(0, .inr (.inr 145)), (1, .inl (x1)), (2, .inl (x2)), (3, .inl (x3)), (4, .inl (x4))]) (st1 := [.inl (s 145 9)]) (h1 := (px_G1, s)) rfl ?_
        refine px_D_ifc rfl (fun hc => ?_) (fun hc => ?_)
        · have hc13 : (s 145 9) = (0) := of_decide_eq_true hc
          rw [if_pos hc13] at h
          refine px_D_st 4 (ip1 := 52) (ls1 := [(6, .inl (0)), (5, .inl (1)), (0, .inr (.inr 145)), (1, .inl (x1)), (2, .inl (x2)), (3, .inl (x3)), (4, .inl (x4))]) (st1 := []) (h1 := (px_G1, s)) rfl ?_
          refine px_D_ls [(0, .inr (.inr 145)), (1, .inl (x1)), (2, .inl (x2)), (3, .inl (x3)), (4, .inl (x4)), (5, .inl (1)), (6, .inl (0))] rfl rfl (List.forall_mem_cons.mpr ⟨rfl, List.forall_mem_cons.mpr ⟨rfl, List.forall_mem_cons.mpr ⟨rfl, List.forall_mem_cons.mpr ⟨rfl, List.forall_mem_cons.mpr ⟨rfl, List.forall_mem_cons.mpr ⟨rfl, List.forall_mem_cons.mpr ⟨rfl, fun _ h => absurd h List.not_mem_nil⟩⟩⟩⟩⟩⟩⟩) ?_
          refine cl_Least_askPrices_52 ?_ px_big _ _ _ _ _ _ _ _ h
          · intro s x1 x2 x3 x4 out h
            refine px_D_st 2 (ip1 := 29) (ls1 := [(4, .inl (px_wr (x4 + 1))), (0, .inr (.inr 145)), (1, .inl (x1)), (2, .inl (x2)), (3, .inl (x3))]) (st1 := []) (h1 := (px_G1, s)) rfl ?_
            refine px_D_ls [(0, .inr (.inr 145)), (1, .inl (x1)), (2, .inl (x2)), (3, .inl (x3)), (4, .inl (px_wr (x4 + 1)))] rfl rfl (List.forall_mem_cons.mpr ⟨rfl, List.forall_mem_cons.mpr ⟨rfl, List.forall_mem_cons.mpr ⟨rfl, List.forall_mem_cons.mpr ⟨rfl, List.forall_mem_cons.mpr ⟨rfl, fun _ h => absurd h List.not_mem_nil⟩⟩⟩⟩⟩) ?_
            exact ih _ _ _ _ _ _ h
        · have hc13 : ¬ ((s 145 9) = (0)) := of_decide_eq_false hc
          rw [if_neg hc13] at h
          refine px_D_st 7 (ip1 := 52) (ls1 := [(6, .inl (0)), (5, .inl (s 6 1)), (0, .inr (.inr 145)), (1, .inl (x1)), (2, .inl (x2)), (3, .inl (x3)), (4, .inl (x4))]) (st1 := []) (h1 := (px_G1, s)) rfl ?_
          refine px_D_ls [(0, .inr (.inr 145)), (1, .inl (x1)), (2, .inl (x2)), (3, .inl (x3)), (4, .inl (x4)), (5, .inl (s 6 1)), (6, .inl (0))] rfl rfl (List.forall_mem_cons.mpr ⟨rfl, List.forall_mem_cons.mpr ⟨rfl, List.forall_mem_cons.mpr ⟨rfl, List.forall_mem_cons.mpr ⟨rfl, List.forall_mem_cons.mpr ⟨rfl, List.forall_mem_cons.mpr ⟨rfl, List.forall_mem_cons.mpr ⟨rfl, fun _ h => absurd h List.not_mem_nil⟩⟩⟩⟩⟩⟩⟩) ?_
          refine cl_Least_askPrices_52 ?_ px_big _ _ _ _ _ _ _ _ h
          · intro s x1 x2 x3 x4 out h
            refine px_D_st 2 (ip1 := 29) (ls1 := [(4, .inl (px_wr (x4 + 1))), (0, .inr (.inr 145)), (1, .inl (x1)), (2, .inl (x2)), (3, .inl (x3))]) (st1 := []) (h1 := (px_G1, s)) rfl ?_
            refine px_D_ls [(0, .inr (.inr 145)), (1, .inl (x1)), (2, .inl (x2)), (3, .inl (x3)), (4, .inl (px_wr (x4 + 1)))] rfl rfl (List.forall_mem_cons.mpr ⟨rfl, List.forall_mem_cons.mpr ⟨rfl, List.forall_mem_cons.mpr ⟨rfl, List.forall_mem_cons.mpr ⟨rfl, List.forall_mem_cons.mpr ⟨rfl, fun _ h => absurd h List.not_mem_nil⟩⟩⟩⟩⟩) ?_
            exact ih _ _ _ _ _ _ h
def l_Least_askPrices_6  : Nat → px_Z → Int → Int → Option (px_Z)
  | 0, _, _, _ => none
  | n + 1, s, x1, x2 => if (s 6 1) ≤ (x2) then some s else (if (x2) = (s 145 10) then l_Least_askPrices_29 (fun s x1 x2 => l_Least_askPrices_6  n s x1 (px_wr (x2 + 1))) px_big s x1 x2 1 x1 else (if 0 ≤ (x2) ∧ (x2) < 8 then if (s 9 x2.toNat) = (2) then l_Least_askPrices_29 (fun s x1 x2 => l_Least_askPrices_6  n s x1 (px_wr (x2 + 1))) px_big s x1 x2 1 x1 else l_Least_askPrices_29 (fun s x1 x2 => l_Least_askPrices_6  n s x1 (px_wr (x2 + 1))) px_big s x1 x2 0 x1 else none))
set_option maxHeartbeats 4000000 in
set_option maxRecDepth 100000 in
theorem cl_Least_askPrices_6 {sc : List Int} {d : Nat}  : ∀ (n : Nat) (s : px_Z) (x1 : Int) (x2 : Int) (out : px_Z), l_Least_askPrices_6  n s x1 x2 = some out → px_D sc (d + 4) 28 6 [(0, .inr (.inr 145)), (1, .inl (x1)), (2, .inl (x2))] [] (px_G1, s) (px_Qv out) := by
  intro n
  induction n with
  | zero => intro s x1 x2 out h; cases h
  | succ n ih =>
    intro s x1 x2 out h
    rw [l_Least_askPrices_6] at h
    refine px_D_st 4 (ip1 := 10) (ls1 := [(0, .inr (.inr 145)), (1, .inl (x1)), (2, .inl (x2))]) (st1 := [.inl (s 6 1), .inl (x2)]) (h1 := (px_G1, s)) rfl ?_
    refine px_D_icmp rfl (fun hc => ?_) (fun hc => ?_)
    · have hc1 : (s 6 1) ≤ (x2) := of_decide_eq_true hc
      rw [if_pos hc1] at h
      cases h
      exact px_D_vret rfl ⟨rfl, rfl⟩
    · have hc1 : ¬ ((s 6 1) ≤ (x2)) := of_decide_eq_false hc
      rw [if_neg hc1] at h
      refine px_D_st 3 (ip1 := 14) (ls1 := [(0, .inr (.inr 145)), (1, .inl (x1)), (2, .inl (x2))]) (st1 := [.inl (s 145 10), .inl (x2)]) (h1 := (px_G1, s)) rfl ?_
      refine px_D_icmp rfl (fun hc => ?_) (fun hc => ?_)
      · have hc2 : (x2) = (s 145 10) := of_decide_eq_true hc
        rw [if_pos hc2] at h
        refine px_D_st 5 (ip1 := 29) (ls1 := [(4, .inl (x1)), (3, .inl (1)), (0, .inr (.inr 145)), (1, .inl (x1)), (2, .inl (x2))]) (st1 := []) (h1 := (px_G1, s)) rfl ?_
        refine px_D_ls [(0, .inr (.inr 145)), (1, .inl (x1)), (2, .inl (x2)), (3, .inl (1)), (4, .inl (x1))] rfl rfl (List.forall_mem_cons.mpr ⟨rfl, List.forall_mem_cons.mpr ⟨rfl, List.forall_mem_cons.mpr ⟨rfl, List.forall_mem_cons.mpr ⟨rfl, List.forall_mem_cons.mpr ⟨rfl, fun _ h => absurd h List.not_mem_nil⟩⟩⟩⟩⟩) ?_
        refine cl_Least_askPrices_29 ?_ px_big _ _ _ _ _ _ h
        · intro s x1 x2 out h
          refine px_D_st 2 (ip1 := 6) (ls1 := [(2, .inl (px_wr (x2 + 1))), (0, .inr (.inr 145)), (1, .inl (x1))]) (st1 := []) (h1 := (px_G1, s)) rfl ?_
          refine px_D_ls [(0, .inr (.inr 145)), (1, .inl (x1)), (2, .inl (px_wr (x2 + 1)))] rfl rfl (List.forall_mem_cons.mpr ⟨rfl, List.forall_mem_cons.mpr ⟨rfl, List.forall_mem_cons.mpr ⟨rfl, fun _ h => absurd h List.not_mem_nil⟩⟩⟩) ?_
          exact ih _ _ _ _ h
      · have hc2 : ¬ ((x2) = (s 145 10)) := of_decide_eq_false hc
        rw [if_neg hc2] at h
        refine px_D_st 5 (ip1 := 20) (ls1 := [(0, .inr (.inr 145)), (1, .inl (x1)), (2, .inl (x2))]) (st1 := [.inl (x2), .inr (.inr 9)]) (h1 := (px_G1, s)) rfl ?_
        by_cases hc14 : 0 ≤ (x2) ∧ (x2) < 8
        case neg => rw [if_neg hc14] at h; cases h
        rw [if_pos hc14] at h
        refine px_D_iald (k := 4) (n := 8) rfl rfl hc14 ?_
        refine px_D_st 1 (ip1 := 22) (ls1 := [(0, .inr (.inr 145)), (1, .inl (x1)), (2, .inl (x2))]) (st1 := [.inl (2), .inl (s 9 x2.toNat)]) (h1 := (px_G1, s)) rfl ?_
        refine px_D_icmp rfl (fun hc => ?_) (fun hc => ?_)
        · have hc15 : ¬ ((s 9 x2.toNat) = (2)) := of_decide_eq_true hc
          rw [if_neg hc15] at h
          refine px_D_st 4 (ip1 := 29) (ls1 := [(4, .inl (x1)), (3, .inl (0)), (0, .inr (.inr 145)), (1, .inl (x1)), (2, .inl (x2))]) (st1 := []) (h1 := (px_G1, s)) rfl ?_
          refine px_D_ls [(0, .inr (.inr 145)), (1, .inl (x1)), (2, .inl (x2)), (3, .inl (0)), (4, .inl (x1))] rfl rfl (List.forall_mem_cons.mpr ⟨rfl, List.forall_mem_cons.mpr ⟨rfl, List.forall_mem_cons.mpr ⟨rfl, List.forall_mem_cons.mpr ⟨rfl, List.forall_mem_cons.mpr ⟨rfl, fun _ h => absurd h List.not_mem_nil⟩⟩⟩⟩⟩) ?_
          refine cl_Least_askPrices_29 ?_ px_big _ _ _ _ _ _ h
          · intro s x1 x2 out h
            refine px_D_st 2 (ip1 := 6) (ls1 := [(2, .inl (px_wr (x2 + 1))), (0, .inr (.inr 145)), (1, .inl (x1))]) (st1 := []) (h1 := (px_G1, s)) rfl ?_
            refine px_D_ls [(0, .inr (.inr 145)), (1, .inl (x1)), (2, .inl (px_wr (x2 + 1)))] rfl rfl (List.forall_mem_cons.mpr ⟨rfl, List.forall_mem_cons.mpr ⟨rfl, List.forall_mem_cons.mpr ⟨rfl, fun _ h => absurd h List.not_mem_nil⟩⟩⟩) ?_
            exact ih _ _ _ _ h
        · have hc15 : (s 9 x2.toNat) = (2) := Decidable.of_not_not (of_decide_eq_false hc)
          rw [if_pos hc15] at h
          refine px_D_st 5 (ip1 := 29) (ls1 := [(4, .inl (x1)), (3, .inl (1)), (0, .inr (.inr 145)), (1, .inl (x1)), (2, .inl (x2))]) (st1 := []) (h1 := (px_G1, s)) rfl ?_
          refine px_D_ls [(0, .inr (.inr 145)), (1, .inl (x1)), (2, .inl (x2)), (3, .inl (1)), (4, .inl (x1))] rfl rfl (List.forall_mem_cons.mpr ⟨rfl, List.forall_mem_cons.mpr ⟨rfl, List.forall_mem_cons.mpr ⟨rfl, List.forall_mem_cons.mpr ⟨rfl, List.forall_mem_cons.mpr ⟨rfl, fun _ h => absurd h List.not_mem_nil⟩⟩⟩⟩⟩) ?_
          refine cl_Least_askPrices_29 ?_ px_big _ _ _ _ _ _ h
          · intro s x1 x2 out h
            refine px_D_st 2 (ip1 := 6) (ls1 := [(2, .inl (px_wr (x2 + 1))), (0, .inr (.inr 145)), (1, .inl (x1))]) (st1 := []) (h1 := (px_G1, s)) rfl ?_
            refine px_D_ls [(0, .inr (.inr 145)), (1, .inl (x1)), (2, .inl (px_wr (x2 + 1)))] rfl rfl (List.forall_mem_cons.mpr ⟨rfl, List.forall_mem_cons.mpr ⟨rfl, List.forall_mem_cons.mpr ⟨rfl, fun _ h => absurd h List.not_mem_nil⟩⟩⟩) ?_
            exact ih _ _ _ _ h
def f_Least_askPrices (s : px_Z) : Option (px_Z) := l_Least_askPrices_6  px_big s (f_Integer_bitCount s (s 145 5)) 0
set_option maxHeartbeats 4000000 in
set_option maxRecDepth 100000 in
theorem c_Least_askPrices {sc : List Int} {d : Nat} {s : px_Z} {out : px_Z} (h : f_Least_askPrices s  = some out) : px_D sc (d + 4) 28 0 [(0, .inr (.inr 145))] [] (px_G1, s) (px_Qv out) := by
  unfold f_Least_askPrices at h
  refine px_D_st 2 (ip1 := 2) (ls1 := [(0, .inr (.inr 145))]) (st1 := [.inl (s 145 5)]) (h1 := (px_G1, s)) rfl ?_
  refine px_D_call (as := [.inl (s 145 5)]) (rest := []) rfl rfl rfl rfl ?_
  refine px_D_mono (c_Integer_bitCount (d := d + 3) rfl) ?_
  rintro _ _ ⟨rfl, rfl⟩
  show px_D sc (d + 4) 28 3 [(0, .inr (.inr 145))] [.inl (f_Integer_bitCount s (s 145 5))] (px_G1, s) _
  refine px_D_st 3 (ip1 := 6) (ls1 := [(2, .inl (0)), (1, .inl (f_Integer_bitCount s (s 145 5))), (0, .inr (.inr 145))]) (st1 := []) (h1 := (px_G1, s)) rfl ?_
  refine px_D_ls [(0, .inr (.inr 145)), (1, .inl (f_Integer_bitCount s (s 145 5))), (2, .inl (0))] rfl rfl (List.forall_mem_cons.mpr ⟨rfl, List.forall_mem_cons.mpr ⟨rfl, List.forall_mem_cons.mpr ⟨rfl, fun _ h => absurd h List.not_mem_nil⟩⟩⟩) ?_
  refine cl_Least_askPrices_6  px_big _ _ _ _ h

def f_Arrays_rangeCheck (s : px_Z) (x0 : Int) (x1 : Int) (x2 : Int) : Option (px_Z) := if (x1) ≤ (x2) then (if (0) ≤ (x1) then (if (x2) ≤ (x0) then some s else none) else none) else none
set_option maxHeartbeats 4000000 in
set_option maxRecDepth 100000 in
theorem c_Arrays_rangeCheck {sc : List Int} {d : Nat} {s : px_Z} {x0 : Int} {x1 : Int} {x2 : Int} {out : px_Z} (h : f_Arrays_rangeCheck s x0 x1 x2 = some out) : px_D sc (d + 0) 289 0 [(0, .inl (x0)), (1, .inl (x1)), (2, .inl (x2))] [] (px_G1, s) (px_Qv out) := by
  unfold f_Arrays_rangeCheck at h
  refine px_D_st 2 (ip1 := 2) (ls1 := [(0, .inl (x0)), (1, .inl (x1)), (2, .inl (x2))]) (st1 := [.inl (x2), .inl (x1)]) (h1 := (px_G1, s)) rfl ?_
  refine px_D_icmp rfl (fun hc => ?_) (fun hc => ?_)
  · have hc1 : (x1) ≤ (x2) := of_decide_eq_true hc
    rw [if_pos hc1] at h
    refine px_D_st 1 (ip1 := 22) (ls1 := [(0, .inl (x0)), (1, .inl (x1)), (2, .inl (x2))]) (st1 := [.inl (x1)]) (h1 := (px_G1, s)) rfl ?_
    refine px_D_ifc rfl (fun hc => ?_) (fun hc => ?_)
    · have hc2 : (0) ≤ (x1) := of_decide_eq_true hc
      rw [if_pos hc2] at h
      refine px_D_st 2 (ip1 := 30) (ls1 := [(0, .inl (x0)), (1, .inl (x1)), (2, .inl (x2))]) (st1 := [.inl (x0), .inl (x2)]) (h1 := (px_G1, s)) rfl ?_
      refine px_D_icmp rfl (fun hc => ?_) (fun hc => ?_)
      · have hc3 : (x2) ≤ (x0) := of_decide_eq_true hc
        rw [if_pos hc3] at h
        cases h
        exact px_D_vret rfl ⟨rfl, rfl⟩
      · have hc3 : ¬ ((x2) ≤ (x0)) := of_decide_eq_false hc
        rw [if_neg hc3] at h
        cases h
    · have hc2 : ¬ ((0) ≤ (x1)) := of_decide_eq_false hc
      rw [if_neg hc2] at h
      cases h
  · have hc1 : ¬ ((x1) ≤ (x2)) := of_decide_eq_false hc
    rw [if_neg hc1] at h
    cases h

def l_Arrays_fill3_7  : Nat → px_Z → Int → Int → Int → Option (px_Z)
  | 0, _, _, _, _ => none
  | n + 1, s, x2, x3, x4 => if (x2) ≤ (x4) then some s else (if 0 ≤ (x4) ∧ (x4) < 2048 then l_Arrays_fill3_7  n (px_up s 146 x4.toNat x3) x2 x3 (px_wr (x4 + 1)) else none)
set_option maxHeartbeats 4000000 in
set_option maxRecDepth 100000 in
theorem cl_Arrays_fill3_7 {sc : List Int} {d : Nat}  : ∀ (n : Nat) (s : px_Z) (x2 : Int) (x3 : Int) (x4 : Int) (out : px_Z), l_Arrays_fill3_7  n s x2 x3 x4 = some out → px_D sc (d + 1) 288 7 [(0, .inr (.inr 146)), (2, .inl (x2)), (3, .inl (x3)), (4, .inl (x4))] [] (px_G1, s) (px_Qv out) := by
  intro n
  induction n with
  | zero => intro s x2 x3 x4 out h; cases h
  | succ n ih =>
    intro s x2 x3 x4 out h
    rw [l_Arrays_fill3_7] at h
    refine px_D_st 2 (ip1 := 9) (ls1 := [(0, .inr (.inr 146)), (2, .inl (x2)), (3, .inl (x3)), (4, .inl (x4))]) (st1 := [.inl (x2), .inl (x4)]) (h1 := (px_G1, s)) rfl ?_
    refine px_D_icmp rfl (fun hc => ?_) (fun hc => ?_)
    · have hc2 : (x2) ≤ (x4) := of_decide_eq_true hc
      rw [if_pos hc2] at h
      cases h
      exact px_D_vret rfl ⟨rfl, rfl⟩
    · have hc2 : ¬ ((x2) ≤ (x4)) := of_decide_eq_false hc
      rw [if_neg hc2] at h
      refine px_D_st 3 (ip1 := 13) (ls1 := [(0, .inr (.inr 146)), (2, .inl (x2)), (3, .inl (x3)), (4, .inl (x4))]) (st1 := [.inl (x3), .inl (x4), .inr (.inr 146)]) (h1 := (px_G1, s)) rfl ?_
      by_cases hc3 : 0 ≤ (x4) ∧ (x4) < 2048
      case neg => rw [if_neg hc3] at h; cases h
      rw [if_pos hc3] at h
      refine px_D_iast (k := 141) (n := 2048) rfl rfl hc3 ?_
      refine px_D_st 2 (ip1 := 7) (ls1 := [(4, .inl (px_wr (x4 + 1))), (0, .inr (.inr 146)), (2, .inl (x2)), (3, .inl (x3))]) (st1 := []) (h1 := (px_G1, px_up s 146 x4.toNat x3)) rfl ?_
      refine px_D_ls [(0, .inr (.inr 146)), (2, .inl (x2)), (3, .inl (x3)), (4, .inl (px_wr (x4 + 1)))] rfl rfl (List.forall_mem_cons.mpr ⟨rfl, List.forall_mem_cons.mpr ⟨rfl, List.forall_mem_cons.mpr ⟨rfl, List.forall_mem_cons.mpr ⟨rfl, fun _ h => absurd h List.not_mem_nil⟩⟩⟩⟩) ?_
      exact ih _ _ _ _ _ h
def f_Arrays_fill3 (s : px_Z) (x1 : Int) (x2 : Int) (x3 : Int) : Option (px_Z) := (f_Arrays_rangeCheck s 2048 x1 x2).bind (fun q1 => l_Arrays_fill3_7  px_big q1 x2 x3 x1)
set_option maxHeartbeats 4000000 in
set_option maxRecDepth 100000 in
theorem c_Arrays_fill3 {sc : List Int} {d : Nat} {s : px_Z} {x1 : Int} {x2 : Int} {x3 : Int} {out : px_Z} (h : f_Arrays_fill3 s x1 x2 x3 = some out) : px_D sc (d + 1) 288 0 [(0, .inr (.inr 146)), (1, .inl (x1)), (2, .inl (x2)), (3, .inl (x3))] [] (px_G1, s) (px_Qv out) := by
  unfold f_Arrays_fill3 at h
  refine px_D_st 4 (ip1 := 4) (ls1 := [(0, .inr (.inr 146)), (1, .inl (x1)), (2, .inl (x2)), (3, .inl (x3))]) (st1 := [.inl (x2), .inl (x1), .inl (2048)]) (h1 := (px_G1, s)) rfl ?_
  refine px_D_call (as := [.inl (2048), .inl (x1), .inl (x2)]) (rest := []) rfl rfl rfl rfl ?_
  obtain ⟨q1, hq1, h⟩ := Option.bind_eq_some_iff.mp h
  refine px_D_mono (c_Arrays_rangeCheck (d := d + 0) hq1) ?_
  rintro _ _ ⟨rfl, rfl⟩
  show px_D sc (d + 1) 288 5 [(0, .inr (.inr 146)), (1, .inl (x1)), (2, .inl (x2)), (3, .inl (x3))] [] (px_G1, q1) _
  refine px_D_st 2 (ip1 := 7) (ls1 := [(4, .inl (x1)), (0, .inr (.inr 146)), (1, .inl (x1)), (2, .inl (x2)), (3, .inl (x3))]) (st1 := []) (h1 := (px_G1, q1)) rfl ?_
  refine px_D_ls [(0, .inr (.inr 146)), (2, .inl (x2)), (3, .inl (x3)), (4, .inl (x1))] rfl rfl (List.forall_mem_cons.mpr ⟨rfl, List.forall_mem_cons.mpr ⟨rfl, List.forall_mem_cons.mpr ⟨rfl, List.forall_mem_cons.mpr ⟨rfl, fun _ h => absurd h List.not_mem_nil⟩⟩⟩⟩) ?_
  refine cl_Arrays_fill3_7  px_big _ _ _ _ _ h

def l_Least_settle_16 (k69 : px_Z → Int → Int → Int → Int → Option (Int × px_Z)) : Nat → px_Z → Int → Int → Int → Int → Int → Int → Int → Option (Int × px_Z)
  | 0, _, _, _, _, _, _, _, _ => none
  | n + 1, s, x1, x2, x3, x4, x5, x6, x7 => if (s 6 1) ≤ (x7) then k69 s x1 x2 x5 x6 else (if (px_and ((px_shr (x4) (x7))) (1)) = (0) then l_Least_settle_16 k69 n s x1 x2 x3 x4 x5 x6 (px_wr (x7 + 1)) else (if (s 145 9) = (0) then (if 0 ≤ (px_wr ((px_wr ((px_or (x1) ((px_shl (1) (x7)))) * 8)) + 0)) ∧ (px_wr ((px_wr ((px_or (x1) ((px_shl (1) (x7)))) * 8)) + 0)) < 2048 then if (536870912) ≤ (s 146 (px_wr ((px_wr ((px_or (x1) ((px_shl (1) (x7)))) * 8)) + 0)).toNat) then (if (x5) ≤ (536870912) then l_Least_settle_16 k69 n s x1 x2 x3 x4 x5 x6 (px_wr (x7 + 1)) else l_Least_settle_16 k69 n s x1 x2 x3 x4 536870912 x7 (px_wr (x7 + 1))) else (if 0 ≤ (f_Least_priceAt s x7 x3 x2) ∧ (f_Least_priceAt s x7 x3 x2) < 512 then if (x5) ≤ (px_wr ((s 146 (px_wr ((px_wr ((px_or (x1) ((px_shl (1) (x7)))) * 8)) + 0)).toNat) + (s 148 (f_Least_priceAt s x7 x3 x2).toNat))) then l_Least_settle_16 k69 n s x1 x2 x3 x4 x5 x6 (px_wr (x7 + 1)) else l_Least_settle_16 k69 n s x1 x2 x3 x4 (px_wr ((s 146 (px_wr ((px_wr ((px_or (x1) ((px_shl (1) (x7)))) * 8)) + 0)).toNat) + (s 148 (f_Least_priceAt s x7 x3 x2).toNat))) x7 (px_wr (x7 + 1)) else none) else none) else (if 0 ≤ (px_wr ((px_wr ((px_or (x1) ((px_shl (1) (x7)))) * 8)) + x7)) ∧ (px_wr ((px_wr ((px_or (x1) ((px_shl (1) (x7)))) * 8)) + x7)) < 2048 then if (536870912) ≤ (s 146 (px_wr ((px_wr ((px_or (x1) ((px_shl (1) (x7)))) * 8)) + x7)).toNat) then (if (x5) ≤ (536870912) then l_Least_settle_16 k69 n s x1 x2 x3 x4 x5 x6 (px_wr (x7 + 1)) else l_Least_settle_16 k69 n s x1 x2 x3 x4 536870912 x7 (px_wr (x7 + 1))) else (if 0 ≤ (f_Least_priceAt s x7 x3 x2) ∧ (f_Least_priceAt s x7 x3 x2) < 512 then if (x5) ≤ (px_wr ((s 146 (px_wr ((px_wr ((px_or (x1) ((px_shl (1) (x7)))) * 8)) + x7)).toNat) + (s 148 (f_Least_priceAt s x7 x3 x2).toNat))) then l_Least_settle_16 k69 n s x1 x2 x3 x4 x5 x6 (px_wr (x7 + 1)) else l_Least_settle_16 k69 n s x1 x2 x3 x4 (px_wr ((s 146 (px_wr ((px_wr ((px_or (x1) ((px_shl (1) (x7)))) * 8)) + x7)).toNat) + (s 148 (f_Least_priceAt s x7 x3 x2).toNat))) x7 (px_wr (x7 + 1)) else none) else none)))
set_option maxHeartbeats 4000000 in
set_option maxRecDepth 100000 in
theorem cl_Least_settle_16 {sc : List Int} {d : Nat} {k69 : px_Z → Int → Int → Int → Int → Option (Int × px_Z)}  (hk69 : ∀ (s : px_Z) (y1 : Int) (y2 : Int) (y5 : Int) (y6 : Int) (out : Int × px_Z), k69 s y1 y2 y5 y6 = some out → px_D sc (d + 2) 32 69 [(0, .inr (.inr 145)), (1, .inl (y1)), (2, .inl (y2)), (5, .inl (y5)), (6, .inl (y6))] [] (px_G1, s) (px_Qi out)) : ∀ (n : Nat) (s : px_Z) (x1 : Int) (x2 : Int) (x3 : Int) (x4 : Int) (x5 : Int) (x6 : Int) (x7 : Int) (out : Int × px_Z), l_Least_settle_16 k69 n s x1 x2 x3 x4 x5 x6 x7 = some out → px_D sc (d + 2) 32 16 [(0, .inr (.inr 145)), (1, .inl (x1)), (2, .inl (x2)), (3, .inl (x3)), (4, .inl (x4)), (5, .inl (x5)), (6, .inl (x6)), (7, .inl (x7))] [] (px_G1, s) (px_Qi out) := by
  intro n
  induction n with
  | zero => intro s x1 x2 x3 x4 x5 x6 x7 out h; cases h
  | succ n ih =>
    intro s x1 x2 x3 x4 x5 x6 x7 out h
    rw [l_Least_settle_16] at h
    refine px_D_st 4 (ip1 := 20) (ls1 := [(0, .inr (.inr 145)), (1, .inl (x1)), (2, .inl (x2)), (3, .inl (x3)), (4, .inl (x4)), (5, .inl (x5)), (6, .inl (x6)), (7, .inl (x7))]) (st1 := [.inl (s 6 1), .inl (x7)]) (h1 := (px_G1, s)) rfl ?_
    refine px_D_icmp rfl (fun hc => ?_) (fun hc => ?_)
    · have hc2 : (s 6 1) ≤ (x7) := of_decide_eq_true hc
      rw [if_pos hc2] at h
      refine px_D_ls [(0, .inr (.inr 145)), (1, .inl (x1)), (2, .inl (x2)), (5, .inl (x5)), (6, .inl (x6))] rfl rfl (List.forall_mem_cons.mpr ⟨rfl, List.forall_mem_cons.mpr ⟨rfl, List.forall_mem_cons.mpr ⟨rfl, List.forall_mem_cons.mpr ⟨rfl, List.forall_mem_cons.mpr ⟨rfl, fun _ h => absurd h List.not_mem_nil⟩⟩⟩⟩⟩) ?_
      exact hk69 _ _ _ _ _ _ h
    · have hc2 : ¬ ((s 6 1) ≤ (x7)) := of_decide_eq_false hc
      rw [if_neg hc2] at h
      refine px_D_st 5 (ip1 := 26) (ls1 := [(0, .inr (.inr 145)), (1, .inl (x1)), (2, .inl (x2)), (3, .inl (x3)), (4, .inl (x4)), (5, .inl (x5)), (6, .inl (x6)), (7, .inl (x7))]) (st1 := [.inl (px_and ((px_shr (x4) (x7))) (1))]) (h1 := (px_G1, s)) rfl ?_
      refine px_D_ifc rfl (fun hc => ?_) (fun hc => ?_)
      · have hc3 : (px_and ((px_shr (x4) (x7))) (1)) = (0) := of_decide_eq_true hc
        rw [if_pos hc3] at h
        refine px_D_st 2 (ip1 := 16) (ls1 := [(7, .inl (px_wr (x7 + 1))), (0, .inr (.inr 145)), (1, .inl (x1)), (2, .inl (x2)), (3, .inl (x3)), (4, .inl (x4)), (5, .inl (x5)), (6, .inl (x6))]) (st1 := []) (h1 := (px_G1, s)) rfl ?_
        refine px_D_ls [(0, .inr (.inr 145)), (1, .inl (x1)), (2, .inl (x2)), (3, .inl (x3)), (4, .inl (x4)), (5, .inl (x5)), (6, .inl (x6)), (7, .inl (px_wr (x7 + 1)))] rfl rfl (List.forall_mem_cons.mpr ⟨rfl, List.forall_mem_cons.mpr ⟨rfl, List.forall_mem_cons.mpr ⟨rfl, List.forall_mem_cons.mpr ⟨rfl, List.forall_mem_cons.mpr ⟨rfl, List.forall_mem_cons.mpr ⟨rfl, List.forall_mem_cons.mpr ⟨rfl, List.forall_mem_cons.mpr ⟨rfl, fun _ h => absurd h List.not_mem_nil⟩⟩⟩⟩⟩⟩⟩⟩) ?_
        exact ih _ _ _ _ _ _ _ _ _ h
      · have hc3 : ¬ ((px_and ((px_shr (x4) (x7))) (1)) = (0)) := of_decide_eq_false hc
        rw [if_neg hc3] at h
        refine px_D_st 11 (ip1 := 38) (ls1 := [(0, .inr (.inr 145)), (1, .inl (x1)), (2, .inl (x2)), (3, .inl (x3)), (4, .inl (x4)), (5, .inl (x5)), (6, .inl (x6)), (7, .inl (x7))]) (st1 := [.inl (s 145 9), .inl (px_wr ((px_or (x1) ((px_shl (1) (x7)))) * 8)), .inr (.inr 146)]) (h1 := (px_G1, s)) rfl ?_
        refine px_D_ifc rfl (fun hc => ?_) (fun hc => ?_)
        · have hc4 : (s 145 9) = (0) := of_decide_eq_true hc
          rw [if_pos hc4] at h
          refine px_D_st 2 (ip1 := 43) (ls1 := [(0, .inr (.inr 145)), (1, .inl (x1)), (2, .inl (x2)), (3, .inl (x3)), (4, .inl (x4)), (5, .inl (x5)), (6, .inl (x6)), (7, .inl (x7))]) (st1 := [.inl (px_wr ((px_wr ((px_or (x1) ((px_shl (1) (x7)))) * 8)) + 0)), .inr (.inr 146)]) (h1 := (px_G1, s)) rfl ?_
          by_cases hc5 : 0 ≤ (px_wr ((px_wr ((px_or (x1) ((px_shl (1) (x7)))) * 8)) + 0)) ∧ (px_wr ((px_wr ((px_or (x1) ((px_shl (1) (x7)))) * 8)) + 0)) < 2048
          case neg => rw [if_neg hc5] at h; cases h
          rw [if_pos hc5] at h
          refine px_D_iald (k := 141) (n := 2048) rfl rfl hc5 ?_
          refine px_D_st 3 (ip1 := 47) (ls1 := [(8, .inl (s 146 (px_wr ((px_wr ((px_or (x1) ((px_shl (1) (x7)))) * 8)) + 0)).toNat)), (0, .inr (.inr 145)), (1, .inl (x1)), (2, .inl (x2)), (3, .inl (x3)), (4, .inl (x4)), (5, .inl (x5)), (6, .inl (x6)), (7, .inl (x7))]) (st1 := [.inl (536870912), .inl (s 146 (px_wr ((px_wr ((px_or (x1) ((px_shl (1) (x7)))) * 8)) + 0)).toNat)]) (h1 := (px_G1, s)) rfl ?_
          refine px_D_icmp rfl (fun hc => ?_) (fun hc => ?_)
          · have hc6 : (536870912) ≤ (s 146 (px_wr ((px_wr ((px_or (x1) ((px_shl (1) (x7)))) * 8)) + 0)).toNat) := of_decide_eq_true hc
            rw [if_pos hc6] at h
            refine px_D_st 4 (ip1 := 62) (ls1 := [(9, .inl (536870912)), (8, .inl (s 146 (px_wr ((px_wr ((px_or (x1) ((px_shl (1) (x7)))) * 8)) + 0)).toNat)), (0, .inr (.inr 145)), (1, .inl (x1)), (2, .inl (x2)), (3, .inl (x3)), (4, .inl (x4)), (5, .inl (x5)), (6, .inl (x6)), (7, .inl (x7))]) (st1 := [.inl (x5), .inl (536870912)]) (h1 := (px_G1, s)) rfl ?_
            refine px_D_icmp rfl (fun hc => ?_) (fun hc => ?_)
            · have hc7 : (x5) ≤ (536870912) := of_decide_eq_true hc
              rw [if_pos hc7] at h
              refine px_D_st 2 (ip1 := 16) (ls1 := [(7, .inl (px_wr (x7 + 1))), (9, .inl (536870912)), (8, .inl (s 146 (px_wr ((px_wr ((px_or (x1) ((px_shl (1) (x7)))) * 8)) + 0)).toNat)), (0, .inr (.inr 145)), (1, .inl (x1)), (2, .inl (x2)), (3, .inl (x3)), (4, .inl (x4)), (5, .inl (x5)), (6, .inl (x6))]) (st1 := []) (h1 := (px_G1, s)) rfl ?_
              refine px_D_ls [(0, .inr (.inr 145)), (1, .inl (x1)), (2, .inl (x2)), (3, .inl (x3)), (4, .inl (x4)), (5, .inl (x5)), (6, .inl (x6)), (7, .inl (px_wr (x7 + 1)))] rfl rfl (List.forall_mem_cons.mpr ⟨rfl, List.forall_mem_cons.mpr ⟨rfl, List.forall_mem_cons.mpr ⟨rfl, List.forall_mem_cons.mpr ⟨rfl, List.forall_mem_cons.mpr ⟨rfl, List.forall_mem_cons.mpr ⟨rfl, List.forall_mem_cons.mpr ⟨rfl, List.forall_mem_cons.mpr ⟨rfl, fun _ h => absurd h List.not_mem_nil⟩⟩⟩⟩⟩⟩⟩⟩) ?_
              exact ih _ _ _ _ _ _ _ _ _ h
            · have hc7 : ¬ ((x5) ≤ (536870912)) := of_decide_eq_false hc
              rw [if_neg hc7] at h
              refine px_D_st 6 (ip1 := 16) (ls1 := [(7, .inl (px_wr (x7 + 1))), (6, .inl (x7)), (5, .inl (536870912)), (9, .inl (536870912)), (8, .inl (s 146 (px_wr ((px_wr ((px_or (x1) ((px_shl (1) (x7)))) * 8)) + 0)).toNat)), (0, .inr (.inr 145)), (1, .inl (x1)), (2, .inl (x2)), (3, .inl (x3)), (4, .inl (x4))]) (st1 := []) (h1 := (px_G1, s)) rfl ?_
              refine px_D_ls [(0, .inr (.inr 145)), (1, .inl (x1)), (2, .inl (x2)), (3, .inl (x3)), (4, .inl (x4)), (5, .inl (536870912)), (6, .inl (x7)), (7, .inl (px_wr (x7 + 1)))] rfl rfl (List.forall_mem_cons.mpr ⟨rfl, List.forall_mem_cons.mpr ⟨rfl, List.forall_mem_cons.mpr ⟨rfl, List.forall_mem_cons.mpr ⟨rfl, List.forall_mem_cons.mpr ⟨rfl, List.forall_mem_cons.mpr ⟨rfl, List.forall_mem_cons.mpr ⟨rfl, List.forall_mem_cons.mpr ⟨rfl, fun _ h => absurd h List.not_mem_nil⟩⟩⟩⟩⟩⟩⟩⟩) ?_
              exact ih _ _ _ _ _ _ _ _ _ h
          · have hc6 : ¬ ((536870912) ≤ (s 146 (px_wr ((px_wr ((px_or (x1) ((px_shl (1) (x7)))) * 8)) + 0)).toNat)) := of_decide_eq_false hc
            rw [if_neg hc6] at h
            refine px_D_st 6 (ip1 := 54) (ls1 := [(8, .inl (s 146 (px_wr ((px_wr ((px_or (x1) ((px_shl (1) (x7)))) * 8)) + 0)).toNat)), (0, .inr (.inr 145)), (1, .inl (x1)), (2, .inl (x2)), (3, .inl (x3)), (4, .inl (x4)), (5, .inl (x5)), (6, .inl (x6)), (7, .inl (x7))]) (st1 := [.inl (x2), .inl (x3), .inl (x7), .inr (.inr 148), .inl (s 146 (px_wr ((px_wr ((px_or (x1) ((px_shl (1) (x7)))) * 8)) + 0)).toNat)]) (h1 := (px_G1, s)) rfl ?_
            refine px_D_call (as := [.inl (x7), .inl (x3), .inl (x2)]) (rest := [.inr (.inr 148), .inl (s 146 (px_wr ((px_wr ((px_or (x1) ((px_shl (1) (x7)))) * 8)) + 0)).toNat)]) rfl rfl rfl rfl ?_
            refine px_D_mono (c_Least_priceAt (d := d + 1) rfl) ?_
            rintro _ _ ⟨rfl, rfl⟩
            show px_D sc (d + 2) 32 55 [(8, .inl (s 146 (px_wr ((px_wr ((px_or (x1) ((px_shl (1) (x7)))) * 8)) + 0)).toNat)), (0, .inr (.inr 145)), (1, .inl (x1)), (2, .inl (x2)), (3, .inl (x3)), (4, .inl (x4)), (5, .inl (x5)), (6, .inl (x6)), (7, .inl (x7))] [.inl (f_Least_priceAt s x7 x3 x2), .inr (.inr 148), .inl (s 146 (px_wr ((px_wr ((px_or (x1) ((px_shl (1) (x7)))) * 8)) + 0)).toNat)] (px_G1, s) _
            by_cases hc8 : 0 ≤ (f_Least_priceAt s x7 x3 x2) ∧ (f_Least_priceAt s x7 x3 x2) < 512
            case neg => rw [if_neg hc8] at h; cases h
            rw [if_pos hc8] at h
            refine px_D_iald (k := 143) (n := 512) rfl rfl hc8 ?_
            refine px_D_st 5 (ip1 := 62) (ls1 := [(9, .inl (px_wr ((s 146 (px_wr ((px_wr ((px_or (x1) ((px_shl (1) (x7)))) * 8)) + 0)).toNat) + (s 148 (f_Least_priceAt s x7 x3 x2).toNat)))), (8, .inl (s 146 (px_wr ((px_wr ((px_or (x1) ((px_shl (1) (x7)))) * 8)) + 0)).toNat)), (0, .inr (.inr 145)), (1, .inl (x1)), (2, .inl (x2)), (3, .inl (x3)), (4, .inl (x4)), (5, .inl (x5)), (6, .inl (x6)), (7, .inl (x7))]) (st1 := [.inl (x5), .inl (px_wr ((s 146 (px_wr ((px_wr ((px_or (x1) ((px_shl (1) (x7)))) * 8)) + 0)).toNat) + (s 148 (f_Least_priceAt s x7 x3 x2).toNat)))]) (h1 := (px_G1, s)) rfl ?_
            refine px_D_icmp rfl (fun hc => ?_) (fun hc => ?_)
            · have hc9 : (x5) ≤ (px_wr ((s 146 (px_wr ((px_wr ((px_or (x1) ((px_shl (1) (x7)))) * 8)) + 0)).toNat) + (s 148 (f_Least_priceAt s x7 x3 x2).toNat))) := of_decide_eq_true hc
              rw [if_pos hc9] at h
              refine px_D_st 2 (ip1 := 16) (ls1 := [(7, .inl (px_wr (x7 + 1))), (9, .inl (px_wr ((s 146 (px_wr ((px_wr ((px_or (x1) ((px_shl (1) (x7)))) * 8)) + 0)).toNat) + (s 148 (f_Least_priceAt s x7 x3 x2).toNat)))), (8, .inl (s 146 (px_wr ((px_wr ((px_or (x1) ((px_shl (1) (x7)))) * 8)) + 0)).toNat)), (0, .inr (.inr 145)), (1, .inl (x1)), (2, .inl (x2)), (3, .inl (x3)), (4, .inl (x4)), (5, .inl (x5)), (6, .inl (x6))]) (st1 := []) (h1 := (px_G1, s)) rfl ?_
              refine px_D_ls [(0, .inr (.inr 145)), (1, .inl (x1)), (2, .inl (x2)), (3, .inl (x3)), (4, .inl (x4)), (5, .inl (x5)), (6, .inl (x6)), (7, .inl (px_wr (x7 + 1)))] rfl rfl (List.forall_mem_cons.mpr ⟨rfl, List.forall_mem_cons.mpr ⟨rfl, List.forall_mem_cons.mpr ⟨rfl, List.forall_mem_cons.mpr ⟨rfl, List.forall_mem_cons.mpr ⟨rfl, List.forall_mem_cons.mpr ⟨rfl, List.forall_mem_cons.mpr ⟨rfl, List.forall_mem_cons.mpr ⟨rfl, fun _ h => absurd h List.not_mem_nil⟩⟩⟩⟩⟩⟩⟩⟩) ?_
              exact ih _ _ _ _ _ _ _ _ _ h
            · have hc9 : ¬ ((x5) ≤ (px_wr ((s 146 (px_wr ((px_wr ((px_or (x1) ((px_shl (1) (x7)))) * 8)) + 0)).toNat) + (s 148 (f_Least_priceAt s x7 x3 x2).toNat)))) := of_decide_eq_false hc
              rw [if_neg hc9] at h
              refine px_D_st 6 (ip1 := 16) (ls1 := [(7, .inl (px_wr (x7 + 1))), (6, .inl (x7)), (5, .inl (px_wr ((s 146 (px_wr ((px_wr ((px_or (x1) ((px_shl (1) (x7)))) * 8)) + 0)).toNat) + (s 148 (f_Least_priceAt s x7 x3 x2).toNat)))), (9, .inl (px_wr ((s 146 (px_wr ((px_wr ((px_or (x1) ((px_shl (1) (x7)))) * 8)) + 0)).toNat) + (s 148 (f_Least_priceAt s x7 x3 x2).toNat)))), (8, .inl (s 146 (px_wr ((px_wr ((px_or (x1) ((px_shl (1) (x7)))) * 8)) + 0)).toNat)), (0, .inr (.inr 145)), (1, .inl (x1)), (2, .inl (x2)), (3, .inl (x3)), (4, .inl (x4))]) (st1 := []) (h1 := (px_G1, s)) rfl ?_
              refine px_D_ls [(0, .inr (.inr 145)), (1, .inl (x1)), (2, .inl (x2)), (3, .inl (x3)), (4, .inl (x4)), (5, .inl (px_wr ((s 146 (px_wr ((px_wr ((px_or (x1) ((px_shl (1) (x7)))) * 8)) + 0)).toNat) + (s 148 (f_Least_priceAt s x7 x3 x2).toNat)))), (6, .inl (x7)), (7, .inl (px_wr (x7 + 1)))] rfl rfl (List.forall_mem_cons.mpr ⟨rfl, List.forall_mem_cons.mpr ⟨rfl, List.forall_mem_cons.mpr ⟨rfl, List.forall_mem_cons.mpr ⟨rfl, List.forall_mem_cons.mpr ⟨rfl, List.forall_mem_cons.mpr ⟨rfl, List.forall_mem_cons.mpr ⟨rfl, List.forall_mem_cons.mpr ⟨rfl, fun _ h => absurd h List.not_mem_nil⟩⟩⟩⟩⟩⟩⟩⟩) ?_
              exact ih _ _ _ _ _ _ _ _ _ h
        · have hc4 : ¬ ((s 145 9) = (0)) := of_decide_eq_false hc
          rw [if_neg hc4] at h
          refine px_D_st 3 (ip1 := 43) (ls1 := [(0, .inr (.inr 145)), (1, .inl (x1)), (2, .inl (x2)), (3, .inl (x3)), (4, .inl (x4)), (5, .inl (x5)), (6, .inl (x6)), (7, .inl (x7))]) (st1 := [.inl (px_wr ((px_wr ((px_or (x1) ((px_shl (1) (x7)))) * 8)) + x7)), .inr (.inr 146)]) (h1 := (px_G1, s)) rfl ?_
          by_cases hc10 : 0 ≤ (px_wr ((px_wr ((px_or (x1) ((px_shl (1) (x7)))) * 8)) + x7)) ∧ (px_wr ((px_wr ((px_or (x1) ((px_shl (1) (x7)))) * 8)) + x7)) < 2048
          case neg => rw [if_neg hc10] at h; cases h
          rw [if_pos hc10] at h
          refine px_D_iald (k := 141) (n := 2048) rfl rfl hc10 ?_
          refine px_D_st 3 (ip1 := 47) (ls1 := [(8, .inl (s 146 (px_wr ((px_wr ((px_or (x1) ((px_shl (1) (x7)))) * 8)) + x7)).toNat)), (0, .inr (.inr 145)), (1, .inl (x1)), (2, .inl (x2)), (3, .inl (x3)), (4, .inl (x4)), (5, .inl (x5)), (6, .inl (x6)), (7, .inl (x7))]) (st1 := [.inl (536870912), .inl (s 146 (px_wr ((px_wr ((px_or (x1) ((px_shl (1) (x7)))) * 8)) + x7)).toNat)]) (h1 := (px_G1, s)) rfl ?_
          refine px_D_icmp rfl (fun hc => ?_) (fun hc => ?_)
          · have hc11 : (536870912) ≤ (s 146 (px_wr ((px_wr ((px_or (x1) ((px_shl (1) (x7)))) * 8)) + x7)).toNat) := of_decide_eq_true hc
            rw [if_pos hc11] at h
            refine px_D_st 4 (ip1 := 62) (ls1 := [(9, .inl (536870912)), (8, .inl (s 146 (px_wr ((px_wr ((px_or (x1) ((px_shl (1) (x7)))) * 8)) + x7)).toNat)), (0, .inr (.inr 145)), (1, .inl (x1)), (2, .inl (x2)), (3, .inl (x3)), (4, .inl (x4)), (5, .inl (x5)), (6, .inl (x6)), (7, .inl (x7))]) (st1 := [.inl (x5), .inl (536870912)]) (h1 := (px_G1, s)) rfl ?_
            refine px_D_icmp rfl (fun hc => ?_) (fun hc => ?_)
            · have hc12 : (x5) ≤ (536870912) := of_decide_eq_true hc
              rw [if_pos hc12] at h
              refine px_D_st 2 (ip1 := 16) (ls1 := [(7, .inl (px_wr (x7 + 1))), (9, .inl (536870912)), (8, .inl (s 146 (px_wr ((px_wr ((px_or (x1) ((px_shl (1) (x7)))) * 8)) + x7)).toNat)), (0, .inr (.inr 145)), (1, .inl (x1)), (2, .inl (x2)), (3, .inl (x3)), (4, .inl (x4)), (5, .inl (x5)), (6, .inl (x6))]) (st1 := []) (h1 := (px_G1, s)) rfl ?_
              refine px_D_ls [(0, .inr (.inr 145)), (1, .inl (x1)), (2, .inl (x2)), (3, .inl (x3)), (4, .inl (x4)), (5, .inl (x5)), (6, .inl (x6)), (7, .inl (px_wr (x7 + 1)))] rfl rfl (List.forall_mem_cons.mpr ⟨rfl, List.forall_mem_cons.mpr ⟨rfl, List.forall_mem_cons.mpr ⟨rfl, List.forall_mem_cons.mpr ⟨rfl, List.forall_mem_cons.mpr ⟨rfl, List.forall_mem_cons.mpr ⟨rfl, List.forall_mem_cons.mpr ⟨rfl, List.forall_mem_cons.mpr ⟨rfl, fun _ h => absurd h List.not_mem_nil⟩⟩⟩⟩⟩⟩⟩⟩) ?_
              exact ih _ _ _ _ _ _ _ _ _ h
            · have hc12 : ¬ ((x5) ≤ (536870912)) := of_decide_eq_false hc
              rw [if_neg hc12] at h
              refine px_D_st 6 (ip1 := 16) (ls1 := [(7, .inl (px_wr (x7 + 1))), (6, .inl (x7)), (5, .inl (536870912)), (9, .inl (536870912)), (8, .inl (s 146 (px_wr ((px_wr ((px_or (x1) ((px_shl (1) (x7)))) * 8)) + x7)).toNat)), (0, .inr (.inr 145)), (1, .inl (x1)), (2, .inl (x2)), (3, .inl (x3)), (4, .inl (x4))]) (st1 := []) (h1 := (px_G1, s)) rfl ?_
              refine px_D_ls [(0, .inr (.inr 145)), (1, .inl (x1)), (2, .inl (x2)), (3, .inl (x3)), (4, .inl (x4)), (5, .inl (536870912)), (6, .inl (x7)), (7, .inl (px_wr (x7 + 1)))] rfl rfl (List.forall_mem_cons.mpr ⟨rfl, List.forall_mem_cons.mpr ⟨rfl, List.forall_mem_cons.mpr ⟨rfl, List.forall_mem_cons.mpr ⟨rfl, List.forall_mem_cons.mpr ⟨rfl, List.forall_mem_cons.mpr ⟨rfl, List.forall_mem_cons.mpr ⟨rfl, List.forall_mem_cons.mpr ⟨rfl, fun _ h => absurd h List.not_mem_nil⟩⟩⟩⟩⟩⟩⟩⟩) ?_
              exact ih _ _ _ _ _ _ _ _ _ h
          · have hc11 : ¬ ((536870912) ≤ (s 146 (px_wr ((px_wr ((px_or (x1) ((px_shl (1) (x7)))) * 8)) + x7)).toNat)) := of_decide_eq_false hc
            rw [if_neg hc11] at h
            refine px_D_st 6 (ip1 := 54) (ls1 := [(8, .inl (s 146 (px_wr ((px_wr ((px_or (x1) ((px_shl (1) (x7)))) * 8)) + x7)).toNat)), (0, .inr (.inr 145)), (1, .inl (x1)), (2, .inl (x2)), (3, .inl (x3)), (4, .inl (x4)), (5, .inl (x5)), (6, .inl (x6)), (7, .inl (x7))]) (st1 := [.inl (x2), .inl (x3), .inl (x7), .inr (.inr 148), .inl (s 146 (px_wr ((px_wr ((px_or (x1) ((px_shl (1) (x7)))) * 8)) + x7)).toNat)]) (h1 := (px_G1, s)) rfl ?_
            refine px_D_call (as := [.inl (x7), .inl (x3), .inl (x2)]) (rest := [.inr (.inr 148), .inl (s 146 (px_wr ((px_wr ((px_or (x1) ((px_shl (1) (x7)))) * 8)) + x7)).toNat)]) rfl rfl rfl rfl ?_
            refine px_D_mono (c_Least_priceAt (d := d + 1) rfl) ?_
            rintro _ _ ⟨rfl, rfl⟩
            show px_D sc (d + 2) 32 55 [(8, .inl (s 146 (px_wr ((px_wr ((px_or (x1) ((px_shl (1) (x7)))) * 8)) + x7)).toNat)), (0, .inr (.inr 145)), (1, .inl (x1)), (2, .inl (x2)), (3, .inl (x3)), (4, .inl (x4)), (5, .inl (x5)), (6, .inl (x6)), (7, .inl (x7))] [.inl (f_Least_priceAt s x7 x3 x2), .inr (.inr 148), .inl (s 146 (px_wr ((px_wr ((px_or (x1) ((px_shl (1) (x7)))) * 8)) + x7)).toNat)] (px_G1, s) _
            by_cases hc13 : 0 ≤ (f_Least_priceAt s x7 x3 x2) ∧ (f_Least_priceAt s x7 x3 x2) < 512
            case neg => rw [if_neg hc13] at h; cases h
            rw [if_pos hc13] at h
            refine px_D_iald (k := 143) (n := 512) rfl rfl hc13 ?_
            refine px_D_st 5 (ip1 := 62) (ls1 := [(9, .inl (px_wr ((s 146 (px_wr ((px_wr ((px_or (x1) ((px_shl (1) (x7)))) * 8)) + x7)).toNat) + (s 148 (f_Least_priceAt s x7 x3 x2).toNat)))), (8, .inl (s 146 (px_wr ((px_wr ((px_or (x1) ((px_shl (1) (x7)))) * 8)) + x7)).toNat)), (0, .inr (.inr 145)), (1, .inl (x1)), (2, .inl (x2)), (3, .inl (x3)), (4, .inl (x4)), (5, .inl (x5)), (6, .inl (x6)), (7, .inl (x7))]) (st1 := [.inl (x5), .inl (px_wr ((s 146 (px_wr ((px_wr ((px_or (x1) ((px_shl (1) (x7)))) * 8)) + x7)).toNat) + (s 148 (f_Least_priceAt s x7 x3 x2).toNat)))]) (h1 := (px_G1, s)) rfl ?_
            refine px_D_icmp rfl (fun hc => ?_) (fun hc => ?_)
            · have hc14 : (x5) ≤ (px_wr ((s 146 (px_wr ((px_wr ((px_or (x1) ((px_shl (1) (x7)))) * 8)) + x7)).toNat) + (s 148 (f_Least_priceAt s x7 x3 x2).toNat))) := of_decide_eq_true hc
              rw [if_pos hc14] at h
              refine px_D_st 2 (ip1 := 16) (ls1 := [(7, .inl (px_wr (x7 + 1))), (9, .inl (px_wr ((s 146 (px_wr ((px_wr ((px_or (x1) ((px_shl (1) (x7)))) * 8)) + x7)).toNat) + (s 148 (f_Least_priceAt s x7 x3 x2).toNat)))), (8, .inl (s 146 (px_wr ((px_wr ((px_or (x1) ((px_shl (1) (x7)))) * 8)) + x7)).toNat)), (0, .inr (.inr 145)), (1, .inl (x1)), (2, .inl (x2)), (3, .inl (x3)), (4, .inl (x4)), (5, .inl (x5)), (6, .inl (x6))]) (st1 := []) (h1 := (px_G1, s)) rfl ?_
              refine px_D_ls [(0, .inr (.inr 145)), (1, .inl (x1)), (2, .inl (x2)), (3, .inl (x3)), (4, .inl (x4)), (5, .inl (x5)), (6, .inl (x6)), (7, .inl (px_wr (x7 + 1)))] rfl rfl (List.forall_mem_cons.mpr ⟨rfl, List.forall_mem_cons.mpr ⟨rfl, List.forall_mem_cons.mpr ⟨rfl, List.forall_mem_cons.mpr ⟨rfl, List.forall_mem_cons.mpr ⟨rfl, List.forall_mem_cons.mpr ⟨rfl, List.forall_mem_cons.mpr ⟨rfl, List.forall_mem_cons.mpr ⟨rfl, fun _ h => absurd h List.not_mem_nil⟩⟩⟩⟩⟩⟩⟩⟩) ?_
              exact ih _ _ _ _ _ _ _ _ _ h
            · have hc14 : ¬ ((x5) ≤ (px_wr ((s 146 (px_wr ((px_wr ((px_or (x1) ((px_shl (1) (x7)))) * 8)) + x7)).toNat) + (s 148 (f_Least_priceAt s x7 x3 x2).toNat)))) := of_decide_eq_false hc
              rw [if_neg hc14] at h
              refine px_D_st 6 (ip1 := 16) (ls1 := [(7, .inl (px_wr (x7 + 1))), (6, .inl (x7)), (5, .inl (px_wr ((s 146 (px_wr ((px_wr ((px_or (x1) ((px_shl (1) (x7)))) * 8)) + x7)).toNat) + (s 148 (f_Least_priceAt s x7 x3 x2).toNat)))), (9, .inl (px_wr ((s 146 (px_wr ((px_wr ((px_or (x1) ((px_shl (1) (x7)))) * 8)) + x7)).toNat) + (s 148 (f_Least_priceAt s x7 x3 x2).toNat)))), (8, .inl (s 146 (px_wr ((px_wr ((px_or (x1) ((px_shl (1) (x7)))) * 8)) + x7)).toNat)), (0, .inr (.inr 145)), (1, .inl (x1)), (2, .inl (x2)), (3, .inl (x3)), (4, .inl (x4))]) (st1 := []) (h1 := (px_G1, s)) rfl ?_
              refine px_D_ls [(0, .inr (.inr 145)), (1, .inl (x1)), (2, .inl (x2)), (3, .inl (x3)), (4, .inl (x4)), (5, .inl (px_wr ((s 146 (px_wr ((px_wr ((px_or (x1) ((px_shl (1) (x7)))) * 8)) + x7)).toNat) + (s 148 (f_Least_priceAt s x7 x3 x2).toNat)))), (6, .inl (x7)), (7, .inl (px_wr (x7 + 1)))] rfl rfl (List.forall_mem_cons.mpr ⟨rfl, List.forall_mem_cons.mpr ⟨rfl, List.forall_mem_cons.mpr ⟨rfl, List.forall_mem_cons.mpr ⟨rfl, List.forall_mem_cons.mpr ⟨rfl, List.forall_mem_cons.mpr ⟨rfl, List.forall_mem_cons.mpr ⟨rfl, List.forall_mem_cons.mpr ⟨rfl, fun _ h => absurd h List.not_mem_nil⟩⟩⟩⟩⟩⟩⟩⟩) ?_
              exact ih _ _ _ _ _ _ _ _ _ h
def f_Least_settle (s : px_Z) (x1 : Int) (x2 : Int) : Option (Int × px_Z) := if 0 ≤ (x1) ∧ (x1) < 256 then l_Least_settle_16 (fun s x1 x2 x5 x6 => if 0 ≤ (px_wr ((px_wr (x1 * 8)) + x2)) ∧ (px_wr ((px_wr (x1 * 8)) + x2)) < 2048 then if (x5) ≤ (s 146 (px_wr ((px_wr (x1 * 8)) + x2)).toNat) then (if 0 ≤ (px_wr ((px_wr (x1 * 8)) + x2)) ∧ (px_wr ((px_wr (x1 * 8)) + x2)) < 2048 then some ((x6, px_up s 146 (px_wr ((px_wr (x1 * 8)) + x2)).toNat x5)) else none) else some (8, s) else none) px_big s x1 x2 (f_Least_columnOf s (f_Integer_bitCount s x1)) (s 149 x1.toNat) 536870912 8 0 else none
set_option maxHeartbeats 4000000 in
set_option maxRecDepth 100000 in
theorem c_Least_settle {sc : List Int} {d : Nat} {s : px_Z} {x1 : Int} {x2 : Int} {out : Int × px_Z} (h : f_Least_settle s x1 x2 = some out) : px_D sc (d + 2) 32 0 [(0, .inr (.inr 145)), (1, .inl (x1)), (2, .inl (x2))] [] (px_G1, s) (px_Qi out) := by
  unfold f_Least_settle at h
  refine px_D_st 2 (ip1 := 2) (ls1 := [(0, .inr (.inr 145)), (1, .inl (x1)), (2, .inl (x2))]) (st1 := [.inl (x1), .inr (.inr 145)]) (h1 := (px_G1, s)) rfl ?_
  refine px_D_call (as := [.inl (x1)]) (rest := [.inr (.inr 145)]) rfl rfl rfl rfl ?_
  refine px_D_mono (c_Integer_bitCount (d := d + 1) rfl) ?_
  rintro _ _ ⟨rfl, rfl⟩
  show px_D sc (d + 2) 32 3 [(0, .inr (.inr 145)), (1, .inl (x1)), (2, .inl (x2))] [.inl (f_Integer_bitCount s x1), .inr (.inr 145)] (px_G1, s) _
  refine px_D_call (as := [.inr (.inr 145), .inl (f_Integer_bitCount s x1)]) (rest := []) rfl rfl rfl rfl ?_
  refine px_D_mono (c_Least_columnOf (d := d + 0) rfl) ?_
  rintro _ _ ⟨rfl, rfl⟩
  show px_D sc (d + 2) 32 4 [(0, .inr (.inr 145)), (1, .inl (x1)), (2, .inl (x2))] [.inl (f_Least_columnOf s (f_Integer_bitCount s x1))] (px_G1, s) _
  refine px_D_st 4 (ip1 := 8) (ls1 := [(3, .inl (f_Least_columnOf s (f_Integer_bitCount s x1))), (0, .inr (.inr 145)), (1, .inl (x1)), (2, .inl (x2))]) (st1 := [.inl (x1), .inr (.inr 149)]) (h1 := (px_G1, s)) rfl ?_
  by_cases hc1 : 0 ≤ (x1) ∧ (x1) < 256
  case neg => rw [if_neg hc1] at h; cases h
  rw [if_pos hc1] at h
  refine px_D_iald (k := 144) (n := 256) rfl rfl hc1 ?_
  refine px_D_st 7 (ip1 := 16) (ls1 := [(7, .inl (0)), (6, .inl (8)), (5, .inl (536870912)), (4, .inl (s 149 x1.toNat)), (3, .inl (f_Least_columnOf s (f_Integer_bitCount s x1))), (0, .inr (.inr 145)), (1, .inl (x1)), (2, .inl (x2))]) (st1 := []) (h1 := (px_G1, s)) rfl ?_
  refine px_D_ls [(0, .inr (.inr 145)), (1, .inl (x1)), (2, .inl (x2)), (3, .inl (f_Least_columnOf s (f_Integer_bitCount s x1))), (4, .inl (s 149 x1.toNat)), (5, .inl (536870912)), (6, .inl (8)), (7, .inl (0))] rfl rfl (List.forall_mem_cons.mpr ⟨rfl, List.forall_mem_cons.mpr ⟨rfl, List.forall_mem_cons.mpr ⟨rfl, List.forall_mem_cons.mpr ⟨rfl, List.forall_mem_cons.mpr ⟨rfl, List.forall_mem_cons.mpr ⟨rfl, List.forall_mem_cons.mpr ⟨rfl, List.forall_mem_cons.mpr ⟨rfl, fun _ h => absurd h List.not_mem_nil⟩⟩⟩⟩⟩⟩⟩⟩) ?_
  refine cl_Least_settle_16 ?_ px_big _ _ _ _ _ _ _ _ _ h
  · intro s x1 x2 x5 x6 out h
    refine px_D_st 9 (ip1 := 78) (ls1 := [(7, .inl (px_wr ((px_wr (x1 * 8)) + x2))), (0, .inr (.inr 145)), (1, .inl (x1)), (2, .inl (x2)), (5, .inl (x5)), (6, .inl (x6))]) (st1 := [.inl (px_wr ((px_wr (x1 * 8)) + x2)), .inr (.inr 146)]) (h1 := (px_G1, s)) rfl ?_
    by_cases hc15 : 0 ≤ (px_wr ((px_wr (x1 * 8)) + x2)) ∧ (px_wr ((px_wr (x1 * 8)) + x2)) < 2048
    case neg => rw [if_neg hc15] at h; cases h
    rw [if_pos hc15] at h
    refine px_D_iald (k := 141) (n := 2048) rfl rfl hc15 ?_
    refine px_D_st 1 (ip1 := 80) (ls1 := [(7, .inl (px_wr ((px_wr (x1 * 8)) + x2))), (0, .inr (.inr 145)), (1, .inl (x1)), (2, .inl (x2)), (5, .inl (x5)), (6, .inl (x6))]) (st1 := [.inl (x5), .inl (s 146 (px_wr ((px_wr (x1 * 8)) + x2)).toNat)]) (h1 := (px_G1, s)) rfl ?_
    refine px_D_icmp rfl (fun hc => ?_) (fun hc => ?_)
    · have hc16 : (x5) ≤ (s 146 (px_wr ((px_wr (x1 * 8)) + x2)).toNat) := of_decide_eq_true hc
      rw [if_pos hc16] at h
      refine px_D_st 4 (ip1 := 87) (ls1 := [(7, .inl (px_wr ((px_wr (x1 * 8)) + x2))), (0, .inr (.inr 145)), (1, .inl (x1)), (2, .inl (x2)), (5, .inl (x5)), (6, .inl (x6))]) (st1 := [.inl (x5), .inl (px_wr ((px_wr (x1 * 8)) + x2)), .inr (.inr 146)]) (h1 := (px_G1, s)) rfl ?_
      by_cases hc17 : 0 ≤ (px_wr ((px_wr (x1 * 8)) + x2)) ∧ (px_wr ((px_wr (x1 * 8)) + x2)) < 2048
      case neg => rw [if_neg hc17] at h; cases h
      rw [if_pos hc17] at h
      refine px_D_iast (k := 141) (n := 2048) rfl rfl hc17 ?_
      refine px_D_st 1 (ip1 := 89) (ls1 := [(7, .inl (px_wr ((px_wr (x1 * 8)) + x2))), (0, .inr (.inr 145)), (1, .inl (x1)), (2, .inl (x2)), (5, .inl (x5)), (6, .inl (x6))]) (st1 := [.inl (x6)]) (h1 := (px_G1, px_up s 146 (px_wr ((px_wr (x1 * 8)) + x2)).toNat x5)) rfl ?_
      cases h
      exact px_D_iret rfl rfl ⟨rfl, rfl⟩
    · have hc16 : ¬ ((x5) ≤ (s 146 (px_wr ((px_wr (x1 * 8)) + x2)).toNat)) := of_decide_eq_false hc
      rw [if_neg hc16] at h
      refine px_D_st 1 (ip1 := 82) (ls1 := [(7, .inl (px_wr ((px_wr (x1 * 8)) + x2))), (0, .inr (.inr 145)), (1, .inl (x1)), (2, .inl (x2)), (5, .inl (x5)), (6, .inl (x6))]) (st1 := [.inl (8)]) (h1 := (px_G1, s)) rfl ?_
      cases h
      exact px_D_iret rfl rfl ⟨rfl, rfl⟩

def l_Least_settleSet_20 (k52 : px_Z → Int → Int → Option (px_Z)) : Nat → px_Z → Int → Int → Int → Int → Option (px_Z)
  | 0, _, _, _, _, _ => none
  | n + 1, s, x1, x2, x3, x4 => if (8) ≤ (x4) then k52 s x1 x3 else (if (px_and ((px_shr (x2) (x4))) (1)) = (0) then l_Least_settleSet_20 k52 n s x1 x2 x3 (px_wr (x4 + 1)) else (f_Least_settle s x1 x4).bind (fun q4 => l_Least_settleSet_20 k52 n q4.2 x1 x2 (px_or ((px_and (x3) ((px_xor ((px_shl (15) ((px_wr (4 * x4))))) ((-1)))))) ((px_shl (q4.1) ((px_wr (4 * x4)))))) (px_wr (x4 + 1))))
set_option maxHeartbeats 4000000 in
set_option maxRecDepth 100000 in
theorem cl_Least_settleSet_20 {sc : List Int} {d : Nat} {k52 : px_Z → Int → Int → Option (px_Z)}  (hk52 : ∀ (s : px_Z) (y1 : Int) (y3 : Int) (out : px_Z), k52 s y1 y3 = some out → px_D sc (d + 3) 31 52 [(0, .inr (.inr 145)), (1, .inl (y1)), (3, .inl (y3))] [] (px_G1, s) (px_Qv out)) : ∀ (n : Nat) (s : px_Z) (x1 : Int) (x2 : Int) (x3 : Int) (x4 : Int) (out : px_Z), l_Least_settleSet_20 k52 n s x1 x2 x3 x4 = some out → px_D sc (d + 3) 31 20 [(0, .inr (.inr 145)), (1, .inl (x1)), (2, .inl (x2)), (3, .inl (x3)), (4, .inl (x4))] [] (px_G1, s) (px_Qv out) := by
  intro n
  induction n with
  | zero => intro s x1 x2 x3 x4 out h; cases h
  | succ n ih =>
    intro s x1 x2 x3 x4 out h
    rw [l_Least_settleSet_20] at h
    refine px_D_st 2 (ip1 := 22) (ls1 := [(0, .inr (.inr 145)), (1, .inl (x1)), (2, .inl (x2)), (3, .inl (x3)), (4, .inl (x4))]) (st1 := [.inl (8), .inl (x4)]) (h1 := (px_G1, s)) rfl ?_
    refine px_D_icmp rfl (fun hc => ?_) (fun hc => ?_)
    · have hc2 : (8) ≤ (x4) := of_decide_eq_true hc
      rw [if_pos hc2] at h
      refine px_D_ls [(0, .inr (.inr 145)), (1, .inl (x1)), (3, .inl (x3))] rfl rfl (List.forall_mem_cons.mpr ⟨rfl, List.forall_mem_cons.mpr ⟨rfl, List.forall_mem_cons.mpr ⟨rfl, fun _ h => absurd h List.not_mem_nil⟩⟩⟩) ?_
      exact hk52 _ _ _ _ h
    · have hc2 : ¬ ((8) ≤ (x4)) := of_decide_eq_false hc
      rw [if_neg hc2] at h
      refine px_D_st 5 (ip1 := 28) (ls1 := [(0, .inr (.inr 145)), (1, .inl (x1)), (2, .inl (x2)), (3, .inl (x3)), (4, .inl (x4))]) (st1 := [.inl (px_and ((px_shr (x2) (x4))) (1))]) (h1 := (px_G1, s)) rfl ?_
      refine px_D_ifc rfl (fun hc => ?_) (fun hc => ?_)
      · have hc3 : (px_and ((px_shr (x2) (x4))) (1)) = (0) := of_decide_eq_true hc
        rw [if_pos hc3] at h
        refine px_D_st 2 (ip1 := 20) (ls1 := [(4, .inl (px_wr (x4 + 1))), (0, .inr (.inr 145)), (1, .inl (x1)), (2, .inl (x2)), (3, .inl (x3))]) (st1 := []) (h1 := (px_G1, s)) rfl ?_
        refine px_D_ls [(0, .inr (.inr 145)), (1, .inl (x1)), (2, .inl (x2)), (3, .inl (x3)), (4, .inl (px_wr (x4 + 1)))] rfl rfl (List.forall_mem_cons.mpr ⟨rfl, List.forall_mem_cons.mpr ⟨rfl, List.forall_mem_cons.mpr ⟨rfl, List.forall_mem_cons.mpr ⟨rfl, List.forall_mem_cons.mpr ⟨rfl, fun _ h => absurd h List.not_mem_nil⟩⟩⟩⟩⟩) ?_
        exact ih _ _ _ _ _ _ h
      · have hc3 : ¬ ((px_and ((px_shr (x2) (x4))) (1)) = (0)) := of_decide_eq_false hc
        rw [if_neg hc3] at h
        refine px_D_st 3 (ip1 := 32) (ls1 := [(0, .inr (.inr 145)), (1, .inl (x1)), (2, .inl (x2)), (3, .inl (x3)), (4, .inl (x4))]) (st1 := [.inl (x4), .inl (x1), .inr (.inr 145)]) (h1 := (px_G1, s)) rfl ?_
        refine px_D_call (as := [.inr (.inr 145), .inl (x1), .inl (x4)]) (rest := []) rfl rfl rfl rfl ?_
        obtain ⟨q4, hq4, h⟩ := Option.bind_eq_some_iff.mp h
        refine px_D_mono (c_Least_settle (d := d + 0) hq4) ?_
        rintro _ _ ⟨rfl, rfl⟩
        show px_D sc (d + 3) 31 33 [(0, .inr (.inr 145)), (1, .inl (x1)), (2, .inl (x2)), (3, .inl (x3)), (4, .inl (x4))] [.inl (q4.1)] (px_G1, q4.2) _
        refine px_D_st 19 (ip1 := 20) (ls1 := [(4, .inl (px_wr (x4 + 1))), (3, .inl (px_or ((px_and (x3) ((px_xor ((px_shl (15) ((px_wr (4 * x4))))) ((-1)))))) ((px_shl (q4.1) ((px_wr (4 * x4))))))), (5, .inl (q4.1)), (0, .inr (.inr 145)), (1, .inl (x1)), (2, .inl (x2))]) (st1 := []) (h1 := (px_G1, q4.2)) rfl ?_
        refine px_D_ls [(0, .inr (.inr 145)), (1, .inl (x1)), (2, .inl (x2)), (3, .inl (px_or ((px_and (x3) ((px_xor ((px_shl (15) ((px_wr (4 * x4))))) ((-1)))))) ((px_shl (q4.1) ((px_wr (4 * x4))))))), (4, .inl (px_wr (x4 + 1)))] rfl rfl (List.forall_mem_cons.mpr ⟨rfl, List.forall_mem_cons.mpr ⟨rfl, List.forall_mem_cons.mpr ⟨rfl, List.forall_mem_cons.mpr ⟨rfl, List.forall_mem_cons.mpr ⟨rfl, fun _ h => absurd h List.not_mem_nil⟩⟩⟩⟩⟩) ?_
        exact ih _ _ _ _ _ _ h
def j_Least_settleSet_j15 (s : px_Z) (x1 : Int) (t0 : Int) : Option (px_Z) := l_Least_settleSet_20 (fun s x1 x3 => if 0 ≤ (px_wr ((px_wr ((s 145 7) * 128)) + x1)) ∧ (px_wr ((px_wr ((s 145 7) * 128)) + x1)) < 7808 then some (px_up s 147 (px_wr ((px_wr ((s 145 7) * 128)) + x1)).toNat x3) else none) px_big s x1 t0 (-2004318072) 0
set_option maxHeartbeats 4000000 in
set_option maxRecDepth 100000 in
theorem cj_Least_settleSet_j15 {sc : List Int} {d : Nat} {s : px_Z} {x1 : Int} {t0 : Int} {out : px_Z} (h : j_Least_settleSet_j15 s x1 t0 = some out) : px_D sc (d + 3) 31 15 [(0, .inr (.inr 145)), (1, .inl (x1))] [.inl (t0)] (px_G1, s) (px_Qv out) := by
  unfold j_Least_settleSet_j15 at h
  refine px_D_st 5 (ip1 := 20) (ls1 := [(4, .inl (0)), (3, .inl ((-2004318072))), (2, .inl (t0)), (0, .inr (.inr 145)), (1, .inl (x1))]) (st1 := []) (h1 := (px_G1, s)) rfl ?_
  refine px_D_ls [(0, .inr (.inr 145)), (1, .inl (x1)), (2, .inl (t0)), (3, .inl ((-2004318072))), (4, .inl (0))] rfl rfl (List.forall_mem_cons.mpr ⟨rfl, List.forall_mem_cons.mpr ⟨rfl, List.forall_mem_cons.mpr ⟨rfl, List.forall_mem_cons.mpr ⟨rfl, List.forall_mem_cons.mpr ⟨rfl, fun _ h => absurd h List.not_mem_nil⟩⟩⟩⟩⟩) ?_
  refine cl_Least_settleSet_20 ?_ px_big _ _ _ _ _ _ h
  · intro s x1 x3 out h
    refine px_D_st 9 (ip1 := 61) (ls1 := [(0, .inr (.inr 145)), (1, .inl (x1)), (3, .inl (x3))]) (st1 := [.inl (x3), .inl (px_wr ((px_wr ((s 145 7) * 128)) + x1)), .inr (.inr 147)]) (h1 := (px_G1, s)) rfl ?_
    by_cases hc5 : 0 ≤ (px_wr ((px_wr ((s 145 7) * 128)) + x1)) ∧ (px_wr ((px_wr ((s 145 7) * 128)) + x1)) < 7808
    case neg => rw [if_neg hc5] at h; cases h
    rw [if_pos hc5] at h
    refine px_D_iast (k := 142) (n := 7808) rfl rfl hc5 ?_
    cases h
    exact px_D_vret rfl ⟨rfl, rfl⟩
def j_Least_settleSet_j14 (s : px_Z) (x1 : Int) : Option (px_Z) := j_Least_settleSet_j15 s x1 1
set_option maxHeartbeats 4000000 in
set_option maxRecDepth 100000 in
theorem cj_Least_settleSet_j14 {sc : List Int} {d : Nat} {s : px_Z} {x1 : Int} {out : px_Z} (h : j_Least_settleSet_j14 s x1 = some out) : px_D sc (d + 3) 31 14 [(0, .inr (.inr 145)), (1, .inl (x1))] [] (px_G1, s) (px_Qv out) := by
  unfold j_Least_settleSet_j14 at h
  refine px_D_st 1 (ip1 := 15) (ls1 := [(0, .inr (.inr 145)), (1, .inl (x1))]) (st1 := [.inl (1)]) (h1 := (px_G1, s)) rfl ?_
  refine px_D_ls [(0, .inr (.inr 145)), (1, .inl (x1))] rfl rfl (List.forall_mem_cons.mpr ⟨rfl, List.forall_mem_cons.mpr ⟨rfl, fun _ h => absurd h List.not_mem_nil⟩⟩) ?_
  exact cj_Least_settleSet_j15 h
def f_Least_settleSet (s : px_Z) (x1 : Int) : Option (px_Z) := if (s 145 9) = (0) then j_Least_settleSet_j14 s x1 else (if (x1) = (s 145 5) then j_Least_settleSet_j14 s x1 else j_Least_settleSet_j15 s x1 (px_and (x1) ((px_xor ((s 145 5)) ((-1))))))
set_option maxHeartbeats 4000000 in
set_option maxRecDepth 100000 in
theorem c_Least_settleSet {sc : List Int} {d : Nat} {s : px_Z} {x1 : Int} {out : px_Z} (h : f_Least_settleSet s x1 = some out) : px_D sc (d + 3) 31 0 [(0, .inr (.inr 145)), (1, .inl (x1))] [] (px_G1, s) (px_Qv out) := by
  unfold f_Least_settleSet at h
  refine px_D_st 2 (ip1 := 2) (ls1 := [(0, .inr (.inr 145)), (1, .inl (x1))]) (st1 := [.inl (s 145 9)]) (h1 := (px_G1, s)) rfl ?_
  refine px_D_ifc rfl (fun hc => ?_) (fun hc => ?_)
  · have hc1 : (s 145 9) = (0) := of_decide_eq_true hc
    rw [if_pos hc1] at h
    refine px_D_ls [(0, .inr (.inr 145)), (1, .inl (x1))] rfl rfl (List.forall_mem_cons.mpr ⟨rfl, List.forall_mem_cons.mpr ⟨rfl, fun _ h => absurd h List.not_mem_nil⟩⟩) ?_
    exact cj_Least_settleSet_j14 h
  · have hc1 : ¬ ((s 145 9) = (0)) := of_decide_eq_false hc
    rw [if_neg hc1] at h
    refine px_D_st 3 (ip1 := 6) (ls1 := [(0, .inr (.inr 145)), (1, .inl (x1))]) (st1 := [.inl (s 145 5), .inl (x1)]) (h1 := (px_G1, s)) rfl ?_
    refine px_D_icmp rfl (fun hc => ?_) (fun hc => ?_)
    · have hc6 : (x1) = (s 145 5) := of_decide_eq_true hc
      rw [if_pos hc6] at h
      refine px_D_ls [(0, .inr (.inr 145)), (1, .inl (x1))] rfl rfl (List.forall_mem_cons.mpr ⟨rfl, List.forall_mem_cons.mpr ⟨rfl, fun _ h => absurd h List.not_mem_nil⟩⟩) ?_
      exact cj_Least_settleSet_j14 h
    · have hc6 : ¬ ((x1) = (s 145 5)) := of_decide_eq_false hc
      rw [if_neg hc6] at h
      refine px_D_st 7 (ip1 := 15) (ls1 := [(0, .inr (.inr 145)), (1, .inl (x1))]) (st1 := [.inl (px_and (x1) ((px_xor ((s 145 5)) ((-1)))))]) (h1 := (px_G1, s)) rfl ?_
      refine px_D_ls [(0, .inr (.inr 145)), (1, .inl (x1))] rfl rfl (List.forall_mem_cons.mpr ⟨rfl, List.forall_mem_cons.mpr ⟨rfl, fun _ h => absurd h List.not_mem_nil⟩⟩) ?_
      exact cj_Least_settleSet_j15 h

def l_Arrays_fill3_2_7  : Nat → px_Z → Int → Int → Int → Option (px_Z)
  | 0, _, _, _, _ => none
  | n + 1, s, x2, x3, x4 => if (x2) ≤ (x4) then some s else (if 0 ≤ (x4) ∧ (x4) < 7808 then l_Arrays_fill3_2_7  n (px_up s 147 x4.toNat x3) x2 x3 (px_wr (x4 + 1)) else none)
set_option maxHeartbeats 4000000 in
set_option maxRecDepth 100000 in
theorem cl_Arrays_fill3_2_7 {sc : List Int} {d : Nat}  : ∀ (n : Nat) (s : px_Z) (x2 : Int) (x3 : Int) (x4 : Int) (out : px_Z), l_Arrays_fill3_2_7  n s x2 x3 x4 = some out → px_D sc (d + 1) 288 7 [(0, .inr (.inr 147)), (2, .inl (x2)), (3, .inl (x3)), (4, .inl (x4))] [] (px_G1, s) (px_Qv out) := by
  intro n
  induction n with
  | zero => intro s x2 x3 x4 out h; cases h
  | succ n ih =>
    intro s x2 x3 x4 out h
    rw [l_Arrays_fill3_2_7] at h
    refine px_D_st 2 (ip1 := 9) (ls1 := [(0, .inr (.inr 147)), (2, .inl (x2)), (3, .inl (x3)), (4, .inl (x4))]) (st1 := [.inl (x2), .inl (x4)]) (h1 := (px_G1, s)) rfl ?_
    refine px_D_icmp rfl (fun hc => ?_) (fun hc => ?_)
    · have hc2 : (x2) ≤ (x4) := of_decide_eq_true hc
      rw [if_pos hc2] at h
      cases h
      exact px_D_vret rfl ⟨rfl, rfl⟩
    · have hc2 : ¬ ((x2) ≤ (x4)) := of_decide_eq_false hc
      rw [if_neg hc2] at h
      refine px_D_st 3 (ip1 := 13) (ls1 := [(0, .inr (.inr 147)), (2, .inl (x2)), (3, .inl (x3)), (4, .inl (x4))]) (st1 := [.inl (x3), .inl (x4), .inr (.inr 147)]) (h1 := (px_G1, s)) rfl ?_
      by_cases hc3 : 0 ≤ (x4) ∧ (x4) < 7808
      case neg => rw [if_neg hc3] at h; cases h
      rw [if_pos hc3] at h
      refine px_D_iast (k := 142) (n := 7808) rfl rfl hc3 ?_
      refine px_D_st 2 (ip1 := 7) (ls1 := [(4, .inl (px_wr (x4 + 1))), (0, .inr (.inr 147)), (2, .inl (x2)), (3, .inl (x3))]) (st1 := []) (h1 := (px_G1, px_up s 147 x4.toNat x3)) rfl ?_
      refine px_D_ls [(0, .inr (.inr 147)), (2, .inl (x2)), (3, .inl (x3)), (4, .inl (px_wr (x4 + 1)))] rfl rfl (List.forall_mem_cons.mpr ⟨rfl, List.forall_mem_cons.mpr ⟨rfl, List.forall_mem_cons.mpr ⟨rfl, List.forall_mem_cons.mpr ⟨rfl, fun _ h => absurd h List.not_mem_nil⟩⟩⟩⟩) ?_
      exact ih _ _ _ _ _ h
def f_Arrays_fill3_2 (s : px_Z) (x1 : Int) (x2 : Int) (x3 : Int) : Option (px_Z) := (f_Arrays_rangeCheck s 7808 x1 x2).bind (fun q1 => l_Arrays_fill3_2_7  px_big q1 x2 x3 x1)
set_option maxHeartbeats 4000000 in
set_option maxRecDepth 100000 in
theorem c_Arrays_fill3_2 {sc : List Int} {d : Nat} {s : px_Z} {x1 : Int} {x2 : Int} {x3 : Int} {out : px_Z} (h : f_Arrays_fill3_2 s x1 x2 x3 = some out) : px_D sc (d + 1) 288 0 [(0, .inr (.inr 147)), (1, .inl (x1)), (2, .inl (x2)), (3, .inl (x3))] [] (px_G1, s) (px_Qv out) := by
  unfold f_Arrays_fill3_2 at h
  refine px_D_st 4 (ip1 := 4) (ls1 := [(0, .inr (.inr 147)), (1, .inl (x1)), (2, .inl (x2)), (3, .inl (x3))]) (st1 := [.inl (x2), .inl (x1), .inl (7808)]) (h1 := (px_G1, s)) rfl ?_
  refine px_D_call (as := [.inl (7808), .inl (x1), .inl (x2)]) (rest := []) rfl rfl rfl rfl ?_
  obtain ⟨q1, hq1, h⟩ := Option.bind_eq_some_iff.mp h
  refine px_D_mono (c_Arrays_rangeCheck (d := d + 0) hq1) ?_
  rintro _ _ ⟨rfl, rfl⟩
  show px_D sc (d + 1) 288 5 [(0, .inr (.inr 147)), (1, .inl (x1)), (2, .inl (x2)), (3, .inl (x3))] [] (px_G1, q1) _
  refine px_D_st 2 (ip1 := 7) (ls1 := [(4, .inl (x1)), (0, .inr (.inr 147)), (1, .inl (x1)), (2, .inl (x2)), (3, .inl (x3))]) (st1 := []) (h1 := (px_G1, q1)) rfl ?_
  refine px_D_ls [(0, .inr (.inr 147)), (2, .inl (x2)), (3, .inl (x3)), (4, .inl (x1))] rfl rfl (List.forall_mem_cons.mpr ⟨rfl, List.forall_mem_cons.mpr ⟨rfl, List.forall_mem_cons.mpr ⟨rfl, List.forall_mem_cons.mpr ⟨rfl, fun _ h => absurd h List.not_mem_nil⟩⟩⟩⟩) ?_
  refine cl_Arrays_fill3_2_7  px_big _ _ _ _ _ h

def l_Hills_isAnyOpen_2 (s : px_Z)  : Nat → Int → Int → Option (Int)
  | 0, _, _ => none
  | n + 1, x1, x2 => if (6) ≤ (x2) then some 0 else (f_Hills_mudIn s x2 x1).bind (fun q2 => if (q2) = ((-1)) then l_Hills_isAnyOpen_2 s  n x1 (px_wr (x2 + 1)) else some 1)
set_option maxHeartbeats 4000000 in
set_option maxRecDepth 100000 in
theorem cl_Hills_isAnyOpen_2 {sc : List Int} {d : Nat} {s : px_Z}  : ∀ (n : Nat) (x1 : Int) (x2 : Int) (out : Int), l_Hills_isAnyOpen_2 s  n x1 x2 = some out → px_D sc (d + 2) 8 2 [(0, .inr (.inr 28)), (1, .inl (x1)), (2, .inl (x2))] [] (px_G1, s) (px_Qp s out) := by
  intro n
  induction n with
  | zero => intro x1 x2 out h; cases h
  | succ n ih =>
    intro x1 x2 out h
    rw [l_Hills_isAnyOpen_2] at h
    refine px_D_st 2 (ip1 := 4) (ls1 := [(0, .inr (.inr 28)), (1, .inl (x1)), (2, .inl (x2))]) (st1 := [.inl (6), .inl (x2)]) (h1 := (px_G1, s)) rfl ?_
    refine px_D_icmp rfl (fun hc => ?_) (fun hc => ?_)
    · have hc1 : (6) ≤ (x2) := of_decide_eq_true hc
      rw [if_pos hc1] at h
      refine px_D_st 1 (ip1 := 16) (ls1 := [(0, .inr (.inr 28)), (1, .inl (x1)), (2, .inl (x2))]) (st1 := [.inl (0)]) (h1 := (px_G1, s)) rfl ?_
      cases h
      exact px_D_iret rfl rfl ⟨rfl, rfl⟩
    · have hc1 : ¬ ((6) ≤ (x2)) := of_decide_eq_false hc
      rw [if_neg hc1] at h
      refine px_D_st 3 (ip1 := 8) (ls1 := [(0, .inr (.inr 28)), (1, .inl (x1)), (2, .inl (x2))]) (st1 := [.inl (x1), .inl (x2), .inr (.inr 28)]) (h1 := (px_G1, s)) rfl ?_
      refine px_D_call (as := [.inr (.inr 28), .inl (x2), .inl (x1)]) (rest := []) rfl rfl rfl rfl ?_
      obtain ⟨q2, hq2, h⟩ := Option.bind_eq_some_iff.mp h
      refine px_D_mono (c_Hills_mudIn (d := d + 0) hq2) ?_
      rintro _ _ ⟨rfl, rfl⟩
      show px_D sc (d + 2) 8 9 [(0, .inr (.inr 28)), (1, .inl (x1)), (2, .inl (x2))] [.inl (q2)] (px_G1, s) _
      refine px_D_st 1 (ip1 := 10) (ls1 := [(0, .inr (.inr 28)), (1, .inl (x1)), (2, .inl (x2))]) (st1 := [.inl ((-1)), .inl (q2)]) (h1 := (px_G1, s)) rfl ?_
      refine px_D_icmp rfl (fun hc => ?_) (fun hc => ?_)
      · have hc3 : (q2) = ((-1)) := of_decide_eq_true hc
        rw [if_pos hc3] at h
        refine px_D_st 2 (ip1 := 2) (ls1 := [(2, .inl (px_wr (x2 + 1))), (0, .inr (.inr 28)), (1, .inl (x1))]) (st1 := []) (h1 := (px_G1, s)) rfl ?_
        refine px_D_ls [(0, .inr (.inr 28)), (1, .inl (x1)), (2, .inl (px_wr (x2 + 1)))] rfl rfl (List.forall_mem_cons.mpr ⟨rfl, List.forall_mem_cons.mpr ⟨rfl, List.forall_mem_cons.mpr ⟨rfl, fun _ h => absurd h List.not_mem_nil⟩⟩⟩) ?_
        exact ih _ _ _ h
      · have hc3 : ¬ ((q2) = ((-1))) := of_decide_eq_false hc
        rw [if_neg hc3] at h
        refine px_D_st 1 (ip1 := 12) (ls1 := [(0, .inr (.inr 28)), (1, .inl (x1)), (2, .inl (x2))]) (st1 := [.inl (1)]) (h1 := (px_G1, s)) rfl ?_
        cases h
        exact px_D_iret rfl rfl ⟨rfl, rfl⟩
def f_Hills_isAnyOpen (s : px_Z) (x1 : Int) : Option (Int) := l_Hills_isAnyOpen_2 s  px_big x1 0
set_option maxHeartbeats 4000000 in
set_option maxRecDepth 100000 in
theorem c_Hills_isAnyOpen {sc : List Int} {d : Nat} {s : px_Z} {x1 : Int} {out : Int} (h : f_Hills_isAnyOpen s x1 = some out) : px_D sc (d + 2) 8 0 [(0, .inr (.inr 28)), (1, .inl (x1))] [] (px_G1, s) (px_Qp s out) := by
  unfold f_Hills_isAnyOpen at h
  refine px_D_st 2 (ip1 := 2) (ls1 := [(2, .inl (0)), (0, .inr (.inr 28)), (1, .inl (x1))]) (st1 := []) (h1 := (px_G1, s)) rfl ?_
  refine px_D_ls [(0, .inr (.inr 28)), (1, .inl (x1)), (2, .inl (0))] rfl rfl (List.forall_mem_cons.mpr ⟨rfl, List.forall_mem_cons.mpr ⟨rfl, List.forall_mem_cons.mpr ⟨rfl, fun _ h => absurd h List.not_mem_nil⟩⟩⟩) ?_
  refine cl_Hills_isAnyOpen_2  px_big _ _ _ h

def l_Least_settleWeek_43  : Nat → px_Z → Int → Option (px_Z)
  | 0, _, _ => none
  | n + 1, s, x2 => if (px_shr ((s 145 6)) (1)) < (x2) then some s else (if (px_and (x2) ((s 145 5))) = (s 145 5) then (f_Least_settleSet s x2).bind (fun q8 => l_Least_settleWeek_43  n q8 (px_wr (x2 + 1))) else l_Least_settleWeek_43  n s (px_wr (x2 + 1)))
set_option maxHeartbeats 4000000 in
set_option maxRecDepth 100000 in
theorem cl_Least_settleWeek_43 {sc : List Int} {d : Nat}  : ∀ (n : Nat) (s : px_Z) (x2 : Int) (out : px_Z), l_Least_settleWeek_43  n s x2 = some out → px_D sc (d + 4) 30 43 [(0, .inr (.inr 145)), (2, .inl (x2))] [] (px_G1, s) (px_Qv out) := by
  intro n
  induction n with
  | zero => intro s x2 out h; cases h
  | succ n ih =>
    intro s x2 out h
    rw [l_Least_settleWeek_43] at h
    refine px_D_st 5 (ip1 := 48) (ls1 := [(0, .inr (.inr 145)), (2, .inl (x2))]) (st1 := [.inl (px_shr ((s 145 6)) (1)), .inl (x2)]) (h1 := (px_G1, s)) rfl ?_
    refine px_D_icmp rfl (fun hc => ?_) (fun hc => ?_)
    · have hc6 : (px_shr ((s 145 6)) (1)) < (x2) := of_decide_eq_true hc
      rw [if_pos hc6] at h
      cases h
      exact px_D_vret rfl ⟨rfl, rfl⟩
    · have hc6 : ¬ ((px_shr ((s 145 6)) (1)) < (x2)) := of_decide_eq_false hc
      rw [if_neg hc6] at h
      refine px_D_st 6 (ip1 := 55) (ls1 := [(0, .inr (.inr 145)), (2, .inl (x2))]) (st1 := [.inl (s 145 5), .inl (px_and (x2) ((s 145 5)))]) (h1 := (px_G1, s)) rfl ?_
      refine px_D_icmp rfl (fun hc => ?_) (fun hc => ?_)
      · have hc7 : ¬ ((px_and (x2) ((s 145 5))) = (s 145 5)) := of_decide_eq_true hc
        rw [if_neg hc7] at h
        refine px_D_st 2 (ip1 := 43) (ls1 := [(2, .inl (px_wr (x2 + 1))), (0, .inr (.inr 145))]) (st1 := []) (h1 := (px_G1, s)) rfl ?_
        refine px_D_ls [(0, .inr (.inr 145)), (2, .inl (px_wr (x2 + 1)))] rfl rfl (List.forall_mem_cons.mpr ⟨rfl, List.forall_mem_cons.mpr ⟨rfl, fun _ h => absurd h List.not_mem_nil⟩⟩) ?_
        exact ih _ _ _ h
      · have hc7 : (px_and (x2) ((s 145 5))) = (s 145 5) := Decidable.of_not_not (of_decide_eq_false hc)
        rw [if_pos hc7] at h
        refine px_D_st 2 (ip1 := 58) (ls1 := [(0, .inr (.inr 145)), (2, .inl (x2))]) (st1 := [.inl (x2), .inr (.inr 145)]) (h1 := (px_G1, s)) rfl ?_
        refine px_D_call (as := [.inr (.inr 145), .inl (x2)]) (rest := []) rfl rfl rfl rfl ?_
        obtain ⟨q8, hq8, h⟩ := Option.bind_eq_some_iff.mp h
        refine px_D_mono (c_Least_settleSet (d := d + 0) hq8) ?_
        rintro _ _ ⟨rfl, rfl⟩
        show px_D sc (d + 4) 30 59 [(0, .inr (.inr 145)), (2, .inl (x2))] [] (px_G1, q8) _
        refine px_D_st 2 (ip1 := 43) (ls1 := [(2, .inl (px_wr (x2 + 1))), (0, .inr (.inr 145))]) (st1 := []) (h1 := (px_G1, q8)) rfl ?_
        refine px_D_ls [(0, .inr (.inr 145)), (2, .inl (px_wr (x2 + 1)))] rfl rfl (List.forall_mem_cons.mpr ⟨rfl, List.forall_mem_cons.mpr ⟨rfl, fun _ h => absurd h List.not_mem_nil⟩⟩) ?_
        exact ih _ _ _ h
def j_Least_settleWeek_j36 (s : px_Z) (t0 : Int) : Option (px_Z) := if (t0) = (0) then l_Least_settleWeek_43  px_big s (s 145 5) else some s
set_option maxHeartbeats 4000000 in
set_option maxRecDepth 100000 in
theorem cj_Least_settleWeek_j36 {sc : List Int} {d : Nat} {s : px_Z} {t0 : Int} {out : px_Z} (h : j_Least_settleWeek_j36 s t0 = some out) : px_D sc (d + 4) 30 36 [(0, .inr (.inr 145))] [.inl (t0)] (px_G1, s) (px_Qv out) := by
  unfold j_Least_settleWeek_j36 at h
  refine px_D_st 2 (ip1 := 38) (ls1 := [(1, .inl (t0)), (0, .inr (.inr 145))]) (st1 := [.inl (t0)]) (h1 := (px_G1, s)) rfl ?_
  refine px_D_ifc rfl (fun hc => ?_) (fun hc => ?_)
  · have hc5 : (t0) = (0) := of_decide_eq_true hc
    rw [if_pos hc5] at h
    refine px_D_st 3 (ip1 := 43) (ls1 := [(2, .inl (s 145 5)), (1, .inl (t0)), (0, .inr (.inr 145))]) (st1 := []) (h1 := (px_G1, s)) rfl ?_
    refine px_D_ls [(0, .inr (.inr 145)), (2, .inl (s 145 5))] rfl rfl (List.forall_mem_cons.mpr ⟨rfl, List.forall_mem_cons.mpr ⟨rfl, fun _ h => absurd h List.not_mem_nil⟩⟩) ?_
    refine cl_Least_settleWeek_43  px_big _ _ _ h
  · have hc5 : ¬ ((t0) = (0)) := of_decide_eq_false hc
    rw [if_neg hc5] at h
    cases h
    exact px_D_vret rfl ⟨rfl, rfl⟩
def j_Least_settleWeek_j33 (s : px_Z) : Option (px_Z) := j_Least_settleWeek_j36 s 1
set_option maxHeartbeats 4000000 in
set_option maxRecDepth 100000 in
theorem cj_Least_settleWeek_j33 {sc : List Int} {d : Nat} {s : px_Z} {out : px_Z} (h : j_Least_settleWeek_j33 s  = some out) : px_D sc (d + 4) 30 33 [(0, .inr (.inr 145))] [] (px_G1, s) (px_Qv out) := by
  unfold j_Least_settleWeek_j33 at h
  refine px_D_st 2 (ip1 := 36) (ls1 := [(0, .inr (.inr 145))]) (st1 := [.inl (1)]) (h1 := (px_G1, s)) rfl ?_
  refine px_D_ls [(0, .inr (.inr 145))] rfl rfl (List.forall_mem_cons.mpr ⟨rfl, fun _ h => absurd h List.not_mem_nil⟩) ?_
  exact cj_Least_settleWeek_j36 h
def j_Least_settleWeek_j26 (s : px_Z) : Option (px_Z) := (f_Hills_isAnyOpen s (s 145 7)).bind (fun q3 => if (q3) = (0) then j_Least_settleWeek_j33 s  else j_Least_settleWeek_j36 s 0)
set_option maxHeartbeats 4000000 in
set_option maxRecDepth 100000 in
theorem cj_Least_settleWeek_j26 {sc : List Int} {d : Nat} {s : px_Z} {out : px_Z} (h : j_Least_settleWeek_j26 s  = some out) : px_D sc (d + 4) 30 26 [(0, .inr (.inr 145))] [] (px_G1, s) (px_Qv out) := by
  unfold j_Least_settleWeek_j26 at h
  refine px_D_st 5 (ip1 := 31) (ls1 := [(0, .inr (.inr 145))]) (st1 := [.inl (s 145 7), .inr (.inr 28)]) (h1 := (px_G1, s)) rfl ?_
  refine px_D_call (as := [.inr (.inr 28), .inl (s 145 7)]) (rest := []) rfl rfl rfl rfl ?_
  obtain ⟨q3, hq3, h⟩ := Option.bind_eq_some_iff.mp h
  refine px_D_mono (c_Hills_isAnyOpen (d := d + 1) hq3) ?_
  rintro _ _ ⟨rfl, rfl⟩
  show px_D sc (d + 4) 30 32 [(0, .inr (.inr 145))] [.inl (q3)] (px_G1, s) _
  refine px_D_ifc rfl (fun hc => ?_) (fun hc => ?_)
  · have hc4 : ¬ ((q3) = (0)) := of_decide_eq_true hc
    rw [if_neg hc4] at h
    refine px_D_st 1 (ip1 := 36) (ls1 := [(0, .inr (.inr 145))]) (st1 := [.inl (0)]) (h1 := (px_G1, s)) rfl ?_
    refine px_D_ls [(0, .inr (.inr 145))] rfl rfl (List.forall_mem_cons.mpr ⟨rfl, fun _ h => absurd h List.not_mem_nil⟩) ?_
    exact cj_Least_settleWeek_j36 h
  · have hc4 : (q3) = (0) := Decidable.of_not_not (of_decide_eq_false hc)
    rw [if_pos hc4] at h
    refine px_D_ls [(0, .inr (.inr 145))] rfl rfl (List.forall_mem_cons.mpr ⟨rfl, fun _ h => absurd h List.not_mem_nil⟩) ?_
    exact cj_Least_settleWeek_j33 h
def f_Least_settleWeek (s : px_Z) : Option (px_Z) := (f_Arrays_fill3_2 s (px_wr ((s 145 7) * 128)) (px_wr ((px_wr ((s 145 7) * 128)) + 128)) (-2004318072)).bind (fun q1 => if (q1 145 7) = (q1 7 4) then (if (q1 7 6) = (0) then j_Least_settleWeek_j26 q1  else j_Least_settleWeek_j33 q1 ) else j_Least_settleWeek_j26 q1 )
set_option maxHeartbeats 4000000 in
set_option maxRecDepth 100000 in
theorem c_Least_settleWeek {sc : List Int} {d : Nat} {s : px_Z} {out : px_Z} (h : f_Least_settleWeek s  = some out) : px_D sc (d + 4) 30 0 [(0, .inr (.inr 145))] [] (px_G1, s) (px_Qv out) := by
  unfold f_Least_settleWeek at h
  refine px_D_st 13 (ip1 := 13) (ls1 := [(0, .inr (.inr 145))]) (st1 := [.inl ((-2004318072)), .inl (px_wr ((px_wr ((s 145 7) * 128)) + 128)), .inl (px_wr ((s 145 7) * 128)), .inr (.inr 147)]) (h1 := (px_G1, s)) rfl ?_
  refine px_D_call (as := [.inr (.inr 147), .inl (px_wr ((s 145 7) * 128)), .inl (px_wr ((px_wr ((s 145 7) * 128)) + 128)), .inl ((-2004318072))]) (rest := []) rfl rfl rfl rfl ?_
  obtain ⟨q1, hq1, h⟩ := Option.bind_eq_some_iff.mp h
  refine px_D_mono (c_Arrays_fill3_2 (d := d + 2) hq1) ?_
  rintro _ _ ⟨rfl, rfl⟩
  show px_D sc (d + 4) 30 14 [(0, .inr (.inr 145))] [] (px_G1, q1) _
  refine px_D_st 6 (ip1 := 20) (ls1 := [(0, .inr (.inr 145))]) (st1 := [.inl (q1 7 4), .inl (q1 145 7)]) (h1 := (px_G1, q1)) rfl ?_
  refine px_D_icmp rfl (fun hc => ?_) (fun hc => ?_)
  · have hc2 : ¬ ((q1 145 7) = (q1 7 4)) := of_decide_eq_true hc
    rw [if_neg hc2] at h
    refine px_D_ls [(0, .inr (.inr 145))] rfl rfl (List.forall_mem_cons.mpr ⟨rfl, fun _ h => absurd h List.not_mem_nil⟩) ?_
    exact cj_Least_settleWeek_j26 h
  · have hc2 : (q1 145 7) = (q1 7 4) := Decidable.of_not_not (of_decide_eq_false hc)
    rw [if_pos hc2] at h
    refine px_D_st 4 (ip1 := 25) (ls1 := [(0, .inr (.inr 145))]) (st1 := [.inl (q1 7 6)]) (h1 := (px_G1, q1)) rfl ?_
    refine px_D_ifc rfl (fun hc => ?_) (fun hc => ?_)
    · have hc9 : ¬ ((q1 7 6) = (0)) := of_decide_eq_true hc
      rw [if_neg hc9] at h
      refine px_D_ls [(0, .inr (.inr 145))] rfl rfl (List.forall_mem_cons.mpr ⟨rfl, fun _ h => absurd h List.not_mem_nil⟩) ?_
      exact cj_Least_settleWeek_j33 h
    · have hc9 : (q1 7 6) = (0) := Decidable.of_not_not (of_decide_eq_false hc)
      rw [if_pos hc9] at h
      refine px_D_ls [(0, .inr (.inr 145))] rfl rfl (List.forall_mem_cons.mpr ⟨rfl, fun _ h => absurd h List.not_mem_nil⟩) ?_
      exact cj_Least_settleWeek_j26 h

def l_Least_findReady_11 (k36 : px_Z → Int → Int → Option (px_Z)) : Nat → px_Z → Int → Int → Int → Option (px_Z)
  | 0, _, _, _, _ => none
  | n + 1, s, x1, x2, x3 => if (s 6 1) ≤ (x3) then k36 s x1 x2 else (if (px_and ((px_shr (x1) (x3))) (1)) = (0) then (f_World_isReady s x3 x1).bind (fun q4 => if (q4) = (0) then l_Least_findReady_11 k36 n s x1 x2 (px_wr (x3 + 1)) else l_Least_findReady_11 k36 n s x1 (px_or (x2) ((px_shl (1) (x3)))) (px_wr (x3 + 1))) else l_Least_findReady_11 k36 n s x1 x2 (px_wr (x3 + 1)))
set_option maxHeartbeats 4000000 in
set_option maxRecDepth 100000 in
theorem cl_Least_findReady_11 {sc : List Int} {d : Nat} {k36 : px_Z → Int → Int → Option (px_Z)}  (hk36 : ∀ (s : px_Z) (y1 : Int) (y2 : Int) (out : px_Z), k36 s y1 y2 = some out → px_D sc (d + 2) 26 36 [(0, .inr (.inr 145)), (1, .inl (y1)), (2, .inl (y2))] [] (px_G1, s) (px_Qv out)) : ∀ (n : Nat) (s : px_Z) (x1 : Int) (x2 : Int) (x3 : Int) (out : px_Z), l_Least_findReady_11 k36 n s x1 x2 x3 = some out → px_D sc (d + 2) 26 11 [(0, .inr (.inr 145)), (1, .inl (x1)), (2, .inl (x2)), (3, .inl (x3))] [] (px_G1, s) (px_Qv out) := by
  intro n
  induction n with
  | zero => intro s x1 x2 x3 out h; cases h
  | succ n ih =>
    intro s x1 x2 x3 out h
    rw [l_Least_findReady_11] at h
    refine px_D_st 4 (ip1 := 15) (ls1 := [(0, .inr (.inr 145)), (1, .inl (x1)), (2, .inl (x2)), (3, .inl (x3))]) (st1 := [.inl (s 6 1), .inl (x3)]) (h1 := (px_G1, s)) rfl ?_
    refine px_D_icmp rfl (fun hc => ?_) (fun hc => ?_)
    · have hc2 : (s 6 1) ≤ (x3) := of_decide_eq_true hc
      rw [if_pos hc2] at h
      refine px_D_ls [(0, .inr (.inr 145)), (1, .inl (x1)), (2, .inl (x2))] rfl rfl (List.forall_mem_cons.mpr ⟨rfl, List.forall_mem_cons.mpr ⟨rfl, List.forall_mem_cons.mpr ⟨rfl, fun _ h => absurd h List.not_mem_nil⟩⟩⟩) ?_
      exact hk36 _ _ _ _ h
    · have hc2 : ¬ ((s 6 1) ≤ (x3)) := of_decide_eq_false hc
      rw [if_neg hc2] at h
      refine px_D_st 5 (ip1 := 21) (ls1 := [(0, .inr (.inr 145)), (1, .inl (x1)), (2, .inl (x2)), (3, .inl (x3))]) (st1 := [.inl (px_and ((px_shr (x1) (x3))) (1))]) (h1 := (px_G1, s)) rfl ?_
      refine px_D_ifc rfl (fun hc => ?_) (fun hc => ?_)
      · have hc3 : ¬ ((px_and ((px_shr (x1) (x3))) (1)) = (0)) := of_decide_eq_true hc
        rw [if_neg hc3] at h
        refine px_D_st 2 (ip1 := 11) (ls1 := [(3, .inl (px_wr (x3 + 1))), (0, .inr (.inr 145)), (1, .inl (x1)), (2, .inl (x2))]) (st1 := []) (h1 := (px_G1, s)) rfl ?_
        refine px_D_ls [(0, .inr (.inr 145)), (1, .inl (x1)), (2, .inl (x2)), (3, .inl (px_wr (x3 + 1)))] rfl rfl (List.forall_mem_cons.mpr ⟨rfl, List.forall_mem_cons.mpr ⟨rfl, List.forall_mem_cons.mpr ⟨rfl, List.forall_mem_cons.mpr ⟨rfl, fun _ h => absurd h List.not_mem_nil⟩⟩⟩⟩) ?_
        exact ih _ _ _ _ _ h
      · have hc3 : (px_and ((px_shr (x1) (x3))) (1)) = (0) := Decidable.of_not_not (of_decide_eq_false hc)
        rw [if_pos hc3] at h
        refine px_D_st 4 (ip1 := 26) (ls1 := [(0, .inr (.inr 145)), (1, .inl (x1)), (2, .inl (x2)), (3, .inl (x3))]) (st1 := [.inl (x1), .inl (x3), .inr (.inr 6)]) (h1 := (px_G1, s)) rfl ?_
        refine px_D_call (as := [.inr (.inr 6), .inl (x3), .inl (x1)]) (rest := []) rfl rfl rfl rfl ?_
        obtain ⟨q4, hq4, h⟩ := Option.bind_eq_some_iff.mp h
        refine px_D_mono (c_World_isReady (d := d + 0) hq4) ?_
        rintro _ _ ⟨rfl, rfl⟩
        show px_D sc (d + 2) 26 27 [(0, .inr (.inr 145)), (1, .inl (x1)), (2, .inl (x2)), (3, .inl (x3))] [.inl (q4)] (px_G1, s) _
        refine px_D_ifc rfl (fun hc => ?_) (fun hc => ?_)
        · have hc5 : (q4) = (0) := of_decide_eq_true hc
          rw [if_pos hc5] at h
          refine px_D_st 2 (ip1 := 11) (ls1 := [(3, .inl (px_wr (x3 + 1))), (0, .inr (.inr 145)), (1, .inl (x1)), (2, .inl (x2))]) (st1 := []) (h1 := (px_G1, s)) rfl ?_
          refine px_D_ls [(0, .inr (.inr 145)), (1, .inl (x1)), (2, .inl (x2)), (3, .inl (px_wr (x3 + 1)))] rfl rfl (List.forall_mem_cons.mpr ⟨rfl, List.forall_mem_cons.mpr ⟨rfl, List.forall_mem_cons.mpr ⟨rfl, List.forall_mem_cons.mpr ⟨rfl, fun _ h => absurd h List.not_mem_nil⟩⟩⟩⟩) ?_
          exact ih _ _ _ _ _ h
        · have hc5 : ¬ ((q4) = (0)) := of_decide_eq_false hc
          rw [if_neg hc5] at h
          refine px_D_st 8 (ip1 := 11) (ls1 := [(3, .inl (px_wr (x3 + 1))), (2, .inl (px_or (x2) ((px_shl (1) (x3))))), (0, .inr (.inr 145)), (1, .inl (x1))]) (st1 := []) (h1 := (px_G1, s)) rfl ?_
          refine px_D_ls [(0, .inr (.inr 145)), (1, .inl (x1)), (2, .inl (px_or (x2) ((px_shl (1) (x3))))), (3, .inl (px_wr (x3 + 1)))] rfl rfl (List.forall_mem_cons.mpr ⟨rfl, List.forall_mem_cons.mpr ⟨rfl, List.forall_mem_cons.mpr ⟨rfl, List.forall_mem_cons.mpr ⟨rfl, fun _ h => absurd h List.not_mem_nil⟩⟩⟩⟩) ?_
          exact ih _ _ _ _ _ h
def l_Least_findReady_3  : Nat → px_Z → Int → Option (px_Z)
  | 0, _, _ => none
  | n + 1, s, x1 => if (s 145 6) < (x1) then some s else l_Least_findReady_11 (fun s x1 x2 => if 0 ≤ (x1) ∧ (x1) < 256 then l_Least_findReady_3  n (px_up s 149 x1.toNat x2) (px_wr (x1 + 1)) else none) px_big s x1 0 0
set_option maxHeartbeats 4000000 in
set_option maxRecDepth 100000 in
theorem cl_Least_findReady_3 {sc : List Int} {d : Nat}  : ∀ (n : Nat) (s : px_Z) (x1 : Int) (out : px_Z), l_Least_findReady_3  n s x1 = some out → px_D sc (d + 2) 26 3 [(0, .inr (.inr 145)), (1, .inl (x1))] [] (px_G1, s) (px_Qv out) := by
  intro n
  induction n with
  | zero => intro s x1 out h; cases h
  | succ n ih =>
    intro s x1 out h
    rw [l_Least_findReady_3] at h
    refine px_D_st 3 (ip1 := 6) (ls1 := [(0, .inr (.inr 145)), (1, .inl (x1))]) (st1 := [.inl (s 145 6), .inl (x1)]) (h1 := (px_G1, s)) rfl ?_
    refine px_D_icmp rfl (fun hc => ?_) (fun hc => ?_)
    · have hc1 : (s 145 6) < (x1) := of_decide_eq_true hc
      rw [if_pos hc1] at h
      cases h
      exact px_D_vret rfl ⟨rfl, rfl⟩
    · have hc1 : ¬ ((s 145 6) < (x1)) := of_decide_eq_false hc
      rw [if_neg hc1] at h
      refine px_D_st 4 (ip1 := 11) (ls1 := [(3, .inl (0)), (2, .inl (0)), (0, .inr (.inr 145)), (1, .inl (x1))]) (st1 := []) (h1 := (px_G1, s)) rfl ?_
      refine px_D_ls [(0, .inr (.inr 145)), (1, .inl (x1)), (2, .inl (0)), (3, .inl (0))] rfl rfl (List.forall_mem_cons.mpr ⟨rfl, List.forall_mem_cons.mpr ⟨rfl, List.forall_mem_cons.mpr ⟨rfl, List.forall_mem_cons.mpr ⟨rfl, fun _ h => absurd h List.not_mem_nil⟩⟩⟩⟩) ?_
      refine cl_Least_findReady_11 ?_ px_big _ _ _ _ _ h
      · intro s x1 x2 out h
        refine px_D_st 4 (ip1 := 40) (ls1 := [(0, .inr (.inr 145)), (1, .inl (x1)), (2, .inl (x2))]) (st1 := [.inl (x2), .inl (x1), .inr (.inr 149)]) (h1 := (px_G1, s)) rfl ?_
        by_cases hc6 : 0 ≤ (x1) ∧ (x1) < 256
        case neg => rw [if_neg hc6] at h; cases h
        rw [if_pos hc6] at h
        refine px_D_iast (k := 144) (n := 256) rfl rfl hc6 ?_
        refine px_D_st 2 (ip1 := 3) (ls1 := [(1, .inl (px_wr (x1 + 1))), (0, .inr (.inr 145)), (2, .inl (x2))]) (st1 := []) (h1 := (px_G1, px_up s 149 x1.toNat x2)) rfl ?_
        refine px_D_ls [(0, .inr (.inr 145)), (1, .inl (px_wr (x1 + 1)))] rfl rfl (List.forall_mem_cons.mpr ⟨rfl, List.forall_mem_cons.mpr ⟨rfl, fun _ h => absurd h List.not_mem_nil⟩⟩) ?_
        exact ih _ _ _ h
def f_Least_findReady (s : px_Z) : Option (px_Z) := l_Least_findReady_3  px_big s (s 145 5)
set_option maxHeartbeats 4000000 in
set_option maxRecDepth 100000 in
theorem c_Least_findReady {sc : List Int} {d : Nat} {s : px_Z} {out : px_Z} (h : f_Least_findReady s  = some out) : px_D sc (d + 2) 26 0 [(0, .inr (.inr 145))] [] (px_G1, s) (px_Qv out) := by
  unfold f_Least_findReady at h
  refine px_D_st 3 (ip1 := 3) (ls1 := [(1, .inl (s 145 5)), (0, .inr (.inr 145))]) (st1 := []) (h1 := (px_G1, s)) rfl ?_
  refine px_D_ls [(0, .inr (.inr 145)), (1, .inl (s 145 5))] rfl rfl (List.forall_mem_cons.mpr ⟨rfl, List.forall_mem_cons.mpr ⟨rfl, fun _ h => absurd h List.not_mem_nil⟩⟩) ?_
  refine cl_Least_findReady_3  px_big _ _ _ h
