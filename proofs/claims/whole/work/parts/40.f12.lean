def f_Trail_goBack (s : px_Z) : Option (Int × px_Z) := if (s 88 2) = (0) then some (0, s) else (if (s 88 1) = 0 then (f_Fate_become_9 s ).bind (fun q3 => some ((1, px_up (px_up q3 88 1 ((px_wr ((px_wr ((q3 88 1) + 6)) - 1)).tmod 6)) 88 2 (px_wr (((px_up q3 88 1 ((px_wr ((px_wr ((q3 88 1) + 6)) - 1)).tmod 6)) 88 2) - 1))))) else (if (s 88 1) = 1 then (f_Fate_become_8 s ).bind (fun q5 => some ((1, px_up (px_up q5 88 1 ((px_wr ((px_wr ((q5 88 1) + 6)) - 1)).tmod 6)) 88 2 (px_wr (((px_up q5 88 1 ((px_wr ((px_wr ((q5 88 1) + 6)) - 1)).tmod 6)) 88 2) - 1))))) else (if (s 88 1) = 2 then (f_Fate_become_7 s ).bind (fun q7 => some ((1, px_up (px_up q7 88 1 ((px_wr ((px_wr ((q7 88 1) + 6)) - 1)).tmod 6)) 88 2 (px_wr (((px_up q7 88 1 ((px_wr ((px_wr ((q7 88 1) + 6)) - 1)).tmod 6)) 88 2) - 1))))) else (if (s 88 1) = 3 then (f_Fate_become_12 s ).bind (fun q9 => some ((1, px_up (px_up q9 88 1 ((px_wr ((px_wr ((q9 88 1) + 6)) - 1)).tmod 6)) 88 2 (px_wr (((px_up q9 88 1 ((px_wr ((px_wr ((q9 88 1) + 6)) - 1)).tmod 6)) 88 2) - 1))))) else (if (s 88 1) = 4 then (f_Fate_become_10 s ).bind (fun q11 => some ((1, px_up (px_up q11 88 1 ((px_wr ((px_wr ((q11 88 1) + 6)) - 1)).tmod 6)) 88 2 (px_wr (((px_up q11 88 1 ((px_wr ((px_wr ((q11 88 1) + 6)) - 1)).tmod 6)) 88 2) - 1))))) else (if (s 88 1) = 5 then (f_Fate_become_11 s ).bind (fun q13 => some ((1, px_up (px_up q13 88 1 ((px_wr ((px_wr ((q13 88 1) + 6)) - 1)).tmod 6)) 88 2 (px_wr (((px_up q13 88 1 ((px_wr ((px_wr ((q13 88 1) + 6)) - 1)).tmod 6)) 88 2) - 1))))) else none))))))
set_option maxHeartbeats 4000000 in
set_option maxRecDepth 100000 in
theorem c_Trail_goBack {sc : List Int} {d : Nat} {s : px_Z} {out : Int × px_Z} (h : f_Trail_goBack s  = some out) : px_D sc (d + 1) 79 0 [(0, .inr (.inr 88)), (1, .inr (.inr 7))] [] (px_G1, s) (px_Qi out) := by
  unfold f_Trail_goBack at h
  refine px_D_st 2 (ip1 := 2) (ls1 := [(0, .inr (.inr 88)), (1, .inr (.inr 7))]) (st1 := [.inl (s 88 2)]) (h1 := (px_G1, s)) rfl ?_
  refine px_D_ifc rfl (fun hc => ?_) (fun hc => ?_)
  · have hc1 : ¬ ((s 88 2) = (0)) := of_decide_eq_true hc
    rw [if_neg hc1] at h
    refine px_D_st 5 (ip1 := 10) (ls1 := [(0, .inr (.inr 88)), (1, .inr (.inr 7))]) (st1 := [.inl (s 88 1), .inr (.inr 89), .inr (.inr 7)]) (h1 := (px_G1, s)) rfl ?_
    by_cases hc2 : (s 88 1) = 0
    · rw [if_pos hc2] at h
      refine px_D_aald (k := 84) (n := 6) (c := 0) (r := 90) rfl rfl hc2 (by decide) rfl ?_
      refine px_D_call (as := [.inr (.inr 7), .inr (.inr 90)]) (rest := []) rfl rfl rfl rfl ?_
      obtain ⟨q3, hq3, h⟩ := Option.bind_eq_some_iff.mp h
      refine px_D_mono (c_Fate_become_9 (d := d + 0) hq3) ?_
      rintro _ _ ⟨rfl, rfl⟩
      show px_D sc (d + 1) 79 12 [(0, .inr (.inr 88)), (1, .inr (.inr 7))] [] (px_G1, q3) _
      refine px_D_st 17 (ip1 := 29) (ls1 := [(0, .inr (.inr 88)), (1, .inr (.inr 7))]) (st1 := [.inl (1)]) (h1 := (px_G1, px_up (px_up q3 88 1 ((px_wr ((px_wr ((q3 88 1) + 6)) - 1)).tmod 6)) 88 2 (px_wr (((px_up q3 88 1 ((px_wr ((px_wr ((q3 88 1) + 6)) - 1)).tmod 6)) 88 2) - 1)))) rfl ?_
      cases h
      exact px_D_iret rfl rfl ⟨rfl, rfl⟩
    rw [if_neg hc2] at h
    by_cases hc4 : (s 88 1) = 1
    · rw [if_pos hc4] at h
      refine px_D_aald (k := 84) (n := 6) (c := 1) (r := 95) rfl rfl hc4 (by decide) rfl ?_
      refine px_D_call (as := [.inr (.inr 7), .inr (.inr 95)]) (rest := []) rfl rfl rfl rfl ?_
      obtain ⟨q5, hq5, h⟩ := Option.bind_eq_some_iff.mp h
      refine px_D_mono (c_Fate_become_8 (d := d + 0) hq5) ?_
      rintro _ _ ⟨rfl, rfl⟩
      show px_D sc (d + 1) 79 12 [(0, .inr (.inr 88)), (1, .inr (.inr 7))] [] (px_G1, q5) _
      refine px_D_st 17 (ip1 := 29) (ls1 := [(0, .inr (.inr 88)), (1, .inr (.inr 7))]) (st1 := [.inl (1)]) (h1 := (px_G1, px_up (px_up q5 88 1 ((px_wr ((px_wr ((q5 88 1) + 6)) - 1)).tmod 6)) 88 2 (px_wr (((px_up q5 88 1 ((px_wr ((px_wr ((q5 88 1) + 6)) - 1)).tmod 6)) 88 2) - 1)))) rfl ?_
      cases h
      exact px_D_iret rfl rfl ⟨rfl, rfl⟩
    rw [if_neg hc4] at h
    by_cases hc6 : (s 88 1) = 2
    · rw [if_pos hc6] at h
      refine px_D_aald (k := 84) (n := 6) (c := 2) (r := 100) rfl rfl hc6 (by decide) rfl ?_
      refine px_D_call (as := [.inr (.inr 7), .inr (.inr 100)]) (rest := []) rfl rfl rfl rfl ?_
      obtain ⟨q7, hq7, h⟩ := Option.bind_eq_some_iff.mp h
      refine px_D_mono (c_Fate_become_7 (d := d + 0) hq7) ?_
      rintro _ _ ⟨rfl, rfl⟩
      show px_D sc (d + 1) 79 12 [(0, .inr (.inr 88)), (1, .inr (.inr 7))] [] (px_G1, q7) _
      refine px_D_st 17 (ip1 := 29) (ls1 := [(0, .inr (.inr 88)), (1, .inr (.inr 7))]) (st1 := [.inl (1)]) (h1 := (px_G1, px_up (px_up q7 88 1 ((px_wr ((px_wr ((q7 88 1) + 6)) - 1)).tmod 6)) 88 2 (px_wr (((px_up q7 88 1 ((px_wr ((px_wr ((q7 88 1) + 6)) - 1)).tmod 6)) 88 2) - 1)))) rfl ?_
      cases h
      exact px_D_iret rfl rfl ⟨rfl, rfl⟩
    rw [if_neg hc6] at h
    by_cases hc8 : (s 88 1) = 3
    · rw [if_pos hc8] at h
      refine px_D_aald (k := 84) (n := 6) (c := 3) (r := 105) rfl rfl hc8 (by decide) rfl ?_
      refine px_D_call (as := [.inr (.inr 7), .inr (.inr 105)]) (rest := []) rfl rfl rfl rfl ?_
      obtain ⟨q9, hq9, h⟩ := Option.bind_eq_some_iff.mp h
      refine px_D_mono (c_Fate_become_12 (d := d + 0) hq9) ?_
      rintro _ _ ⟨rfl, rfl⟩
      show px_D sc (d + 1) 79 12 [(0, .inr (.inr 88)), (1, .inr (.inr 7))] [] (px_G1, q9) _
      refine px_D_st 17 (ip1 := 29) (ls1 := [(0, .inr (.inr 88)), (1, .inr (.inr 7))]) (st1 := [.inl (1)]) (h1 := (px_G1, px_up (px_up q9 88 1 ((px_wr ((px_wr ((q9 88 1) + 6)) - 1)).tmod 6)) 88 2 (px_wr (((px_up q9 88 1 ((px_wr ((px_wr ((q9 88 1) + 6)) - 1)).tmod 6)) 88 2) - 1)))) rfl ?_
      cases h
      exact px_D_iret rfl rfl ⟨rfl, rfl⟩
    rw [if_neg hc8] at h
    by_cases hc10 : (s 88 1) = 4
    · rw [if_pos hc10] at h
      refine px_D_aald (k := 84) (n := 6) (c := 4) (r := 110) rfl rfl hc10 (by decide) rfl ?_
      refine px_D_call (as := [.inr (.inr 7), .inr (.inr 110)]) (rest := []) rfl rfl rfl rfl ?_
      obtain ⟨q11, hq11, h⟩ := Option.bind_eq_some_iff.mp h
      refine px_D_mono (c_Fate_become_10 (d := d + 0) hq11) ?_
      rintro _ _ ⟨rfl, rfl⟩
      show px_D sc (d + 1) 79 12 [(0, .inr (.inr 88)), (1, .inr (.inr 7))] [] (px_G1, q11) _
      refine px_D_st 17 (ip1 := 29) (ls1 := [(0, .inr (.inr 88)), (1, .inr (.inr 7))]) (st1 := [.inl (1)]) (h1 := (px_G1, px_up (px_up q11 88 1 ((px_wr ((px_wr ((q11 88 1) + 6)) - 1)).tmod 6)) 88 2 (px_wr (((px_up q11 88 1 ((px_wr ((px_wr ((q11 88 1) + 6)) - 1)).tmod 6)) 88 2) - 1)))) rfl ?_
      cases h
      exact px_D_iret rfl rfl ⟨rfl, rfl⟩
    rw [if_neg hc10] at h
    by_cases hc12 : (s 88 1) = 5
    · rw [if_pos hc12] at h
      refine px_D_aald (k := 84) (n := 6) (c := 5) (r := 115) rfl rfl hc12 (by decide) rfl ?_
      refine px_D_call (as := [.inr (.inr 7), .inr (.inr 115)]) (rest := []) rfl rfl rfl rfl ?_
      obtain ⟨q13, hq13, h⟩ := Option.bind_eq_some_iff.mp h
      refine px_D_mono (c_Fate_become_11 (d := d + 0) hq13) ?_
      rintro _ _ ⟨rfl, rfl⟩
      show px_D sc (d + 1) 79 12 [(0, .inr (.inr 88)), (1, .inr (.inr 7))] [] (px_G1, q13) _
      refine px_D_st 17 (ip1 := 29) (ls1 := [(0, .inr (.inr 88)), (1, .inr (.inr 7))]) (st1 := [.inl (1)]) (h1 := (px_G1, px_up (px_up q13 88 1 ((px_wr ((px_wr ((q13 88 1) + 6)) - 1)).tmod 6)) 88 2 (px_wr (((px_up q13 88 1 ((px_wr ((px_wr ((q13 88 1) + 6)) - 1)).tmod 6)) 88 2) - 1)))) rfl ?_
      cases h
      exact px_D_iret rfl rfl ⟨rfl, rfl⟩
    rw [if_neg hc12] at h
    cases h
  · have hc1 : (s 88 2) = (0) := Decidable.of_not_not (of_decide_eq_false hc)
    rw [if_pos hc1] at h
    refine px_D_st 1 (ip1 := 4) (ls1 := [(0, .inr (.inr 88)), (1, .inr (.inr 7))]) (st1 := [.inl (0)]) (h1 := (px_G1, s)) rfl ?_
    cases h
    exact px_D_iret rfl rfl ⟨rfl, rfl⟩

def f_R_undo (s : px_Z) : Option (Int × px_Z) := (f_Trail_goBack s ).bind (fun q1 => if (q1.1) = (0) then some (0, q1.2) else (f_Least_forget q1.2 ).bind (fun q3 => some (1, q3)))
set_option maxHeartbeats 4000000 in
set_option maxRecDepth 100000 in
theorem c_R_undo {sc : List Int} {d : Nat} {s : px_Z} {out : Int × px_Z} (h : f_R_undo s  = some out) : px_D sc (d + 2) 138 0 [(0, .inr (.inr 5))] [] (px_G1, s) (px_Qi out) := by
  unfold f_R_undo at h
  refine px_D_st 5 (ip1 := 5) (ls1 := [(0, .inr (.inr 5))]) (st1 := [.inr (.inr 7), .inr (.inr 88)]) (h1 := (px_G1, s)) rfl ?_
  refine px_D_call (as := [.inr (.inr 88), .inr (.inr 7)]) (rest := []) rfl rfl rfl rfl ?_
  obtain ⟨q1, hq1, h⟩ := Option.bind_eq_some_iff.mp h
  refine px_D_mono (c_Trail_goBack (d := d + 0) hq1) ?_
  rintro _ _ ⟨rfl, rfl⟩
  show px_D sc (d + 2) 138 6 [(0, .inr (.inr 5))] [.inl (q1.1)] (px_G1, q1.2) _
  refine px_D_ifc rfl (fun hc => ?_) (fun hc => ?_)
  · have hc2 : ¬ ((q1.1) = (0)) := of_decide_eq_true hc
    rw [if_neg hc2] at h
    refine px_D_st 2 (ip1 := 11) (ls1 := [(0, .inr (.inr 5))]) (st1 := [.inr (.inr 145)]) (h1 := (px_G1, q1.2)) rfl ?_
    refine px_D_call (as := [.inr (.inr 145)]) (rest := []) rfl rfl rfl rfl ?_
    obtain ⟨q3, hq3, h⟩ := Option.bind_eq_some_iff.mp h
    refine px_D_mono (c_Least_forget (d := d + 1) hq3) ?_
    rintro _ _ ⟨rfl, rfl⟩
    show px_D sc (d + 2) 138 12 [(0, .inr (.inr 5))] [] (px_G1, q3) _
    refine px_D_st 1 (ip1 := 13) (ls1 := [(0, .inr (.inr 5))]) (st1 := [.inl (1)]) (h1 := (px_G1, q3)) rfl ?_
    cases h
    exact px_D_iret rfl rfl ⟨rfl, rfl⟩
  · have hc2 : (q1.1) = (0) := Decidable.of_not_not (of_decide_eq_false hc)
    rw [if_pos hc2] at h
    refine px_D_st 1 (ip1 := 8) (ls1 := [(0, .inr (.inr 5))]) (st1 := [.inl (0)]) (h1 := (px_G1, q1.2)) rfl ?_
    cases h
    exact px_D_iret rfl rfl ⟨rfl, rfl⟩

def f_Told_become (s : px_Z) : Option (px_Z) := some (px_cp (px_cp (px_cp (px_cp (px_cp (px_cp (px_up (px_up (px_up s 79 0 (s 38 0)) 79 1 ((px_up s 79 0 (s 38 0)) 38 1)) 79 2 ((px_up (px_up s 79 0 (s 38 0)) 79 1 ((px_up s 79 0 (s 38 0)) 38 1)) 38 2)) 39 80 0 0 8) 40 81 0 0 12) 41 82 0 0 12) 42 83 0 0 12) 43 84 0 0 12) 44 85 0 0 12)
set_option maxHeartbeats 4000000 in
set_option maxRecDepth 100000 in
theorem c_Told_become {sc : List Int} {d : Nat} {s : px_Z} {out : px_Z} (h : f_Told_become s  = some out) : px_D sc (d + 0) 67 0 [(0, .inr (.inr 79)), (1, .inr (.inr 38))] [] (px_G1, s) (px_Qv out) := by
  unfold f_Told_become at h
  refine px_D_st 60 (ip1 := 60) (ls1 := [(0, .inr (.inr 79)), (1, .inr (.inr 38))]) (st1 := []) (h1 := (px_G1, px_cp (px_cp (px_cp (px_cp (px_cp (px_cp (px_up (px_up (px_up s 79 0 (s 38 0)) 79 1 ((px_up s 79 0 (s 38 0)) 38 1)) 79 2 ((px_up (px_up s 79 0 (s 38 0)) 79 1 ((px_up s 79 0 (s 38 0)) 38 1)) 38 2)) 39 80 0 0 8) 40 81 0 0 12) 41 82 0 0 12) 42 83 0 0 12) 43 84 0 0 12) 44 85 0 0 12)) rfl ?_
  cases h
  exact px_D_vret rfl ⟨rfl, rfl⟩

def f_Law_become_3 (s : px_Z) : Option (px_Z) := some (px_cp (px_cp (px_cp (px_cp (px_cp (px_up (px_up s 55 0 (s 14 0)) 55 1 ((px_up s 55 0 (s 14 0)) 14 1)) 15 56 0 0 16) 16 57 0 0 16) 17 58 0 0 16) 18 59 0 0 16) 19 60 0 0 400)
set_option maxHeartbeats 4000000 in
set_option maxRecDepth 100000 in
theorem c_Law_become_3 {sc : List Int} {d : Nat} {s : px_Z} {out : px_Z} (h : f_Law_become_3 s  = some out) : px_D sc (d + 0) 13 0 [(0, .inr (.inr 55)), (1, .inr (.inr 14))] [] (px_G1, s) (px_Qv out) := by
  unfold f_Law_become_3 at h
  refine px_D_st 48 (ip1 := 48) (ls1 := [(0, .inr (.inr 55)), (1, .inr (.inr 14))]) (st1 := []) (h1 := (px_G1, px_cp (px_cp (px_cp (px_cp (px_cp (px_up (px_up s 55 0 (s 14 0)) 55 1 ((px_up s 55 0 (s 14 0)) 14 1)) 15 56 0 0 16) 16 57 0 0 16) 17 58 0 0 16) 18 59 0 0 16) 19 60 0 0 400)) rfl ?_
  cases h
  exact px_D_vret rfl ⟨rfl, rfl⟩

def f_Fate_become_13 (s : px_Z) : Option (px_Z) := if ((px_up (px_up (px_up (px_up (px_up (px_up s 48 0 (s 7 0)) 48 1 ((px_up s 48 0 (s 7 0)) 7 1)) 48 2 ((px_up (px_up s 48 0 (s 7 0)) 48 1 ((px_up s 48 0 (s 7 0)) 7 1)) 7 2)) 48 3 ((px_up (px_up (px_up s 48 0 (s 7 0)) 48 1 ((px_up s 48 0 (s 7 0)) 7 1)) 48 2 ((px_up (px_up s 48 0 (s 7 0)) 48 1 ((px_up s 48 0 (s 7 0)) 7 1)) 7 2)) 7 3)) 48 4 ((px_up (px_up (px_up (px_up s 48 0 (s 7 0)) 48 1 ((px_up s 48 0 (s 7 0)) 7 1)) 48 2 ((px_up (px_up s 48 0 (s 7 0)) 48 1 ((px_up s 48 0 (s 7 0)) 7 1)) 7 2)) 48 3 ((px_up (px_up (px_up s 48 0 (s 7 0)) 48 1 ((px_up s 48 0 (s 7 0)) 7 1)) 48 2 ((px_up (px_up s 48 0 (s 7 0)) 48 1 ((px_up s 48 0 (s 7 0)) 7 1)) 7 2)) 7 3)) 7 4)) 48 5 ((px_up (px_up (px_up (px_up (px_up s 48 0 (s 7 0)) 48 1 ((px_up s 48 0 (s 7 0)) 7 1)) 48 2 ((px_up (px_up s 48 0 (s 7 0)) 48 1 ((px_up s 48 0 (s 7 0)) 7 1)) 7 2)) 48 3 ((px_up (px_up (px_up s 48 0 (s 7 0)) 48 1 ((px_up s 48 0 (s 7 0)) 7 1)) 48 2 ((px_up (px_up s 48 0 (s 7 0)) 48 1 ((px_up s 48 0 (s 7 0)) 7 1)) 7 2)) 7 3)) 48 4 ((px_up (px_up (px_up (px_up s 48 0 (s 7 0)) 48 1 ((px_up s 48 0 (s 7 0)) 7 1)) 48 2 ((px_up (px_up s 48 0 (s 7 0)) 48 1 ((px_up s 48 0 (s 7 0)) 7 1)) 7 2)) 48 3 ((px_up (px_up (px_up s 48 0 (s 7 0)) 48 1 ((px_up s 48 0 (s 7 0)) 7 1)) 48 2 ((px_up (px_up s 48 0 (s 7 0)) 48 1 ((px_up s 48 0 (s 7 0)) 7 1)) 7 2)) 7 3)) 7 4)) 7 5)) 7 6) = 0 ∨ ((px_up (px_up (px_up (px_up (px_up (px_up s 48 0 (s 7 0)) 48 1 ((px_up s 48 0 (s 7 0)) 7 1)) 48 2 ((px_up (px_up s 48 0 (s 7 0)) 48 1 ((px_up s 48 0 (s 7 0)) 7 1)) 7 2)) 48 3 ((px_up (px_up (px_up s 48 0 (s 7 0)) 48 1 ((px_up s 48 0 (s 7 0)) 7 1)) 48 2 ((px_up (px_up s 48 0 (s 7 0)) 48 1 ((px_up s 48 0 (s 7 0)) 7 1)) 7 2)) 7 3)) 48 4 ((px_up (px_up (px_up (px_up s 48 0 (s 7 0)) 48 1 ((px_up s 48 0 (s 7 0)) 7 1)) 48 2 ((px_up (px_up s 48 0 (s 7 0)) 48 1 ((px_up s 48 0 (s 7 0)) 7 1)) 7 2)) 48 3 ((px_up (px_up (px_up s 48 0 (s 7 0)) 48 1 ((px_up s 48 0 (s 7 0)) 7 1)) 48 2 ((px_up (px_up s 48 0 (s 7 0)) 48 1 ((px_up s 48 0 (s 7 0)) 7 1)) 7 2)) 7 3)) 7 4)) 48 5 ((px_up (px_up (px_up (px_up (px_up s 48 0 (s 7 0)) 48 1 ((px_up s 48 0 (s 7 0)) 7 1)) 48 2 ((px_up (px_up s 48 0 (s 7 0)) 48 1 ((px_up s 48 0 (s 7 0)) 7 1)) 7 2)) 48 3 ((px_up (px_up (px_up s 48 0 (s 7 0)) 48 1 ((px_up s 48 0 (s 7 0)) 7 1)) 48 2 ((px_up (px_up s 48 0 (s 7 0)) 48 1 ((px_up s 48 0 (s 7 0)) 7 1)) 7 2)) 7 3)) 48 4 ((px_up (px_up (px_up (px_up s 48 0 (s 7 0)) 48 1 ((px_up s 48 0 (s 7 0)) 7 1)) 48 2 ((px_up (px_up s 48 0 (s 7 0)) 48 1 ((px_up s 48 0 (s 7 0)) 7 1)) 7 2)) 48 3 ((px_up (px_up (px_up s 48 0 (s 7 0)) 48 1 ((px_up s 48 0 (s 7 0)) 7 1)) 48 2 ((px_up (px_up s 48 0 (s 7 0)) 48 1 ((px_up s 48 0 (s 7 0)) 7 1)) 7 2)) 7 3)) 7 4)) 7 5)) 7 6) = 1 then some (px_cp (px_cp (px_cp (px_cp (px_up (px_up (px_up (px_up (px_up (px_up (px_up (px_up s 48 0 (s 7 0)) 48 1 ((px_up s 48 0 (s 7 0)) 7 1)) 48 2 ((px_up (px_up s 48 0 (s 7 0)) 48 1 ((px_up s 48 0 (s 7 0)) 7 1)) 7 2)) 48 3 ((px_up (px_up (px_up s 48 0 (s 7 0)) 48 1 ((px_up s 48 0 (s 7 0)) 7 1)) 48 2 ((px_up (px_up s 48 0 (s 7 0)) 48 1 ((px_up s 48 0 (s 7 0)) 7 1)) 7 2)) 7 3)) 48 4 ((px_up (px_up (px_up (px_up s 48 0 (s 7 0)) 48 1 ((px_up s 48 0 (s 7 0)) 7 1)) 48 2 ((px_up (px_up s 48 0 (s 7 0)) 48 1 ((px_up s 48 0 (s 7 0)) 7 1)) 7 2)) 48 3 ((px_up (px_up (px_up s 48 0 (s 7 0)) 48 1 ((px_up s 48 0 (s 7 0)) 7 1)) 48 2 ((px_up (px_up s 48 0 (s 7 0)) 48 1 ((px_up s 48 0 (s 7 0)) 7 1)) 7 2)) 7 3)) 7 4)) 48 5 ((px_up (px_up (px_up (px_up (px_up s 48 0 (s 7 0)) 48 1 ((px_up s 48 0 (s 7 0)) 7 1)) 48 2 ((px_up (px_up s 48 0 (s 7 0)) 48 1 ((px_up s 48 0 (s 7 0)) 7 1)) 7 2)) 48 3 ((px_up (px_up (px_up s 48 0 (s 7 0)) 48 1 ((px_up s 48 0 (s 7 0)) 7 1)) 48 2 ((px_up (px_up s 48 0 (s 7 0)) 48 1 ((px_up s 48 0 (s 7 0)) 7 1)) 7 2)) 7 3)) 48 4 ((px_up (px_up (px_up (px_up s 48 0 (s 7 0)) 48 1 ((px_up s 48 0 (s 7 0)) 7 1)) 48 2 ((px_up (px_up s 48 0 (s 7 0)) 48 1 ((px_up s 48 0 (s 7 0)) 7 1)) 7 2)) 48 3 ((px_up (px_up (px_up s 48 0 (s 7 0)) 48 1 ((px_up s 48 0 (s 7 0)) 7 1)) 48 2 ((px_up (px_up s 48 0 (s 7 0)) 48 1 ((px_up s 48 0 (s 7 0)) 7 1)) 7 2)) 7 3)) 7 4)) 7 5)) 48 6 ((px_up (px_up (px_up (px_up (px_up (px_up s 48 0 (s 7 0)) 48 1 ((px_up s 48 0 (s 7 0)) 7 1)) 48 2 ((px_up (px_up s 48 0 (s 7 0)) 48 1 ((px_up s 48 0 (s 7 0)) 7 1)) 7 2)) 48 3 ((px_up (px_up (px_up s 48 0 (s 7 0)) 48 1 ((px_up s 48 0 (s 7 0)) 7 1)) 48 2 ((px_up (px_up s 48 0 (s 7 0)) 48 1 ((px_up s 48 0 (s 7 0)) 7 1)) 7 2)) 7 3)) 48 4 ((px_up (px_up (px_up (px_up s 48 0 (s 7 0)) 48 1 ((px_up s 48 0 (s 7 0)) 7 1)) 48 2 ((px_up (px_up s 48 0 (s 7 0)) 48 1 ((px_up s 48 0 (s 7 0)) 7 1)) 7 2)) 48 3 ((px_up (px_up (px_up s 48 0 (s 7 0)) 48 1 ((px_up s 48 0 (s 7 0)) 7 1)) 48 2 ((px_up (px_up s 48 0 (s 7 0)) 48 1 ((px_up s 48 0 (s 7 0)) 7 1)) 7 2)) 7 3)) 7 4)) 48 5 ((px_up (px_up (px_up (px_up (px_up s 48 0 (s 7 0)) 48 1 ((px_up s 48 0 (s 7 0)) 7 1)) 48 2 ((px_up (px_up s 48 0 (s 7 0)) 48 1 ((px_up s 48 0 (s 7 0)) 7 1)) 7 2)) 48 3 ((px_up (px_up (px_up s 48 0 (s 7 0)) 48 1 ((px_up s 48 0 (s 7 0)) 7 1)) 48 2 ((px_up (px_up s 48 0 (s 7 0)) 48 1 ((px_up s 48 0 (s 7 0)) 7 1)) 7 2)) 7 3)) 48 4 ((px_up (px_up (px_up (px_up s 48 0 (s 7 0)) 48 1 ((px_up s 48 0 (s 7 0)) 7 1)) 48 2 ((px_up (px_up s 48 0 (s 7 0)) 48 1 ((px_up s 48 0 (s 7 0)) 7 1)) 7 2)) 48 3 ((px_up (px_up (px_up s 48 0 (s 7 0)) 48 1 ((px_up s 48 0 (s 7 0)) 7 1)) 48 2 ((px_up (px_up s 48 0 (s 7 0)) 48 1 ((px_up s 48 0 (s 7 0)) 7 1)) 7 2)) 7 3)) 7 4)) 7 5)) 7 6)) 48 7 ((px_up (px_up (px_up (px_up (px_up (px_up (px_up s 48 0 (s 7 0)) 48 1 ((px_up s 48 0 (s 7 0)) 7 1)) 48 2 ((px_up (px_up s 48 0 (s 7 0)) 48 1 ((px_up s 48 0 (s 7 0)) 7 1)) 7 2)) 48 3 ((px_up (px_up (px_up s 48 0 (s 7 0)) 48 1 ((px_up s 48 0 (s 7 0)) 7 1)) 48 2 ((px_up (px_up s 48 0 (s 7 0)) 48 1 ((px_up s 48 0 (s 7 0)) 7 1)) 7 2)) 7 3)) 48 4 ((px_up (px_up (px_up (px_up s 48 0 (s 7 0)) 48 1 ((px_up s 48 0 (s 7 0)) 7 1)) 48 2 ((px_up (px_up s 48 0 (s 7 0)) 48 1 ((px_up s 48 0 (s 7 0)) 7 1)) 7 2)) 48 3 ((px_up (px_up (px_up s 48 0 (s 7 0)) 48 1 ((px_up s 48 0 (s 7 0)) 7 1)) 48 2 ((px_up (px_up s 48 0 (s 7 0)) 48 1 ((px_up s 48 0 (s 7 0)) 7 1)) 7 2)) 7 3)) 7 4)) 48 5 ((px_up (px_up (px_up (px_up (px_up s 48 0 (s 7 0)) 48 1 ((px_up s 48 0 (s 7 0)) 7 1)) 48 2 ((px_up (px_up s 48 0 (s 7 0)) 48 1 ((px_up s 48 0 (s 7 0)) 7 1)) 7 2)) 48 3 ((px_up (px_up (px_up s 48 0 (s 7 0)) 48 1 ((px_up s 48 0 (s 7 0)) 7 1)) 48 2 ((px_up (px_up s 48 0 (s 7 0)) 48 1 ((px_up s 48 0 (s 7 0)) 7 1)) 7 2)) 7 3)) 48 4 ((px_up (px_up (px_up (px_up s 48 0 (s 7 0)) 48 1 ((px_up s 48 0 (s 7 0)) 7 1)) 48 2 ((px_up (px_up s 48 0 (s 7 0)) 48 1 ((px_up s 48 0 (s 7 0)) 7 1)) 7 2)) 48 3 ((px_up (px_up (px_up s 48 0 (s 7 0)) 48 1 ((px_up s 48 0 (s 7 0)) 7 1)) 48 2 ((px_up (px_up s 48 0 (s 7 0)) 48 1 ((px_up s 48 0 (s 7 0)) 7 1)) 7 2)) 7 3)) 7 4)) 7 5)) 48 6 ((px_up (px_up (px_up (px_up (px_up (px_up s 48 0 (s 7 0)) 48 1 ((px_up s 48 0 (s 7 0)) 7 1)) 48 2 ((px_up (px_up s 48 0 (s 7 0)) 48 1 ((px_up s 48 0 (s 7 0)) 7 1)) 7 2)) 48 3 ((px_up (px_up (px_up s 48 0 (s 7 0)) 48 1 ((px_up s 48 0 (s 7 0)) 7 1)) 48 2 ((px_up (px_up s 48 0 (s 7 0)) 48 1 ((px_up s 48 0 (s 7 0)) 7 1)) 7 2)) 7 3)) 48 4 ((px_up (px_up (px_up (px_up s 48 0 (s 7 0)) 48 1 ((px_up s 48 0 (s 7 0)) 7 1)) 48 2 ((px_up (px_up s 48 0 (s 7 0)) 48 1 ((px_up s 48 0 (s 7 0)) 7 1)) 7 2)) 48 3 ((px_up (px_up (px_up s 48 0 (s 7 0)) 48 1 ((px_up s 48 0 (s 7 0)) 7 1)) 48 2 ((px_up (px_up s 48 0 (s 7 0)) 48 1 ((px_up s 48 0 (s 7 0)) 7 1)) 7 2)) 7 3)) 7 4)) 48 5 ((px_up (px_up (px_up (px_up (px_up s 48 0 (s 7 0)) 48 1 ((px_up s 48 0 (s 7 0)) 7 1)) 48 2 ((px_up (px_up s 48 0 (s 7 0)) 48 1 ((px_up s 48 0 (s 7 0)) 7 1)) 7 2)) 48 3 ((px_up (px_up (px_up s 48 0 (s 7 0)) 48 1 ((px_up s 48 0 (s 7 0)) 7 1)) 48 2 ((px_up (px_up s 48 0 (s 7 0)) 48 1 ((px_up s 48 0 (s 7 0)) 7 1)) 7 2)) 7 3)) 48 4 ((px_up (px_up (px_up (px_up s 48 0 (s 7 0)) 48 1 ((px_up s 48 0 (s 7 0)) 7 1)) 48 2 ((px_up (px_up s 48 0 (s 7 0)) 48 1 ((px_up s 48 0 (s 7 0)) 7 1)) 7 2)) 48 3 ((px_up (px_up (px_up s 48 0 (s 7 0)) 48 1 ((px_up s 48 0 (s 7 0)) 7 1)) 48 2 ((px_up (px_up s 48 0 (s 7 0)) 48 1 ((px_up s 48 0 (s 7 0)) 7 1)) 7 2)) 7 3)) 7 4)) 7 5)) 7 6)) 7 7)) 8 49 0 0 8) 9 50 0 0 8) 10 51 0 0 8) 11 52 0 0 8) else none
set_option maxHeartbeats 4000000 in
set_option maxRecDepth 100000 in
theorem c_Fate_become_13 {sc : List Int} {d : Nat} {s : px_Z} {out : px_Z} (h : f_Fate_become_13 s  = some out) : px_D sc (d + 0) 1 0 [(0, .inr (.inr 48)), (1, .inr (.inr 7))] [] (px_G1, s) (px_Qv out) := by
  unfold f_Fate_become_13 at h
  refine px_D_st 27 (ip1 := 27) (ls1 := [(0, .inr (.inr 48)), (1, .inr (.inr 7))]) (st1 := [.inl ((px_up (px_up (px_up (px_up (px_up (px_up s 48 0 (s 7 0)) 48 1 ((px_up s 48 0 (s 7 0)) 7 1)) 48 2 ((px_up (px_up s 48 0 (s 7 0)) 48 1 ((px_up s 48 0 (s 7 0)) 7 1)) 7 2)) 48 3 ((px_up (px_up (px_up s 48 0 (s 7 0)) 48 1 ((px_up s 48 0 (s 7 0)) 7 1)) 48 2 ((px_up (px_up s 48 0 (s 7 0)) 48 1 ((px_up s 48 0 (s 7 0)) 7 1)) 7 2)) 7 3)) 48 4 ((px_up (px_up (px_up (px_up s 48 0 (s 7 0)) 48 1 ((px_up s 48 0 (s 7 0)) 7 1)) 48 2 ((px_up (px_up s 48 0 (s 7 0)) 48 1 ((px_up s 48 0 (s 7 0)) 7 1)) 7 2)) 48 3 ((px_up (px_up (px_up s 48 0 (s 7 0)) 48 1 ((px_up s 48 0 (s 7 0)) 7 1)) 48 2 ((px_up (px_up s 48 0 (s 7 0)) 48 1 ((px_up s 48 0 (s 7 0)) 7 1)) 7 2)) 7 3)) 7 4)) 48 5 ((px_up (px_up (px_up (px_up (px_up s 48 0 (s 7 0)) 48 1 ((px_up s 48 0 (s 7 0)) 7 1)) 48 2 ((px_up (px_up s 48 0 (s 7 0)) 48 1 ((px_up s 48 0 (s 7 0)) 7 1)) 7 2)) 48 3 ((px_up (px_up (px_up s 48 0 (s 7 0)) 48 1 ((px_up s 48 0 (s 7 0)) 7 1)) 48 2 ((px_up (px_up s 48 0 (s 7 0)) 48 1 ((px_up s 48 0 (s 7 0)) 7 1)) 7 2)) 7 3)) 48 4 ((px_up (px_up (px_up (px_up s 48 0 (s 7 0)) 48 1 ((px_up s 48 0 (s 7 0)) 7 1)) 48 2 ((px_up (px_up s 48 0 (s 7 0)) 48 1 ((px_up s 48 0 (s 7 0)) 7 1)) 7 2)) 48 3 ((px_up (px_up (px_up s 48 0 (s 7 0)) 48 1 ((px_up s 48 0 (s 7 0)) 7 1)) 48 2 ((px_up (px_up s 48 0 (s 7 0)) 48 1 ((px_up s 48 0 (s 7 0)) 7 1)) 7 2)) 7 3)) 7 4)) 7 5)) 7 6), .inr (.inr 48)]) (h1 := (px_G1, px_up (px_up (px_up (px_up (px_up (px_up s 48 0 (s 7 0)) 48 1 ((px_up s 48 0 (s 7 0)) 7 1)) 48 2 ((px_up (px_up s 48 0 (s 7 0)) 48 1 ((px_up s 48 0 (s 7 0)) 7 1)) 7 2)) 48 3 ((px_up (px_up (px_up s 48 0 (s 7 0)) 48 1 ((px_up s 48 0 (s 7 0)) 7 1)) 48 2 ((px_up (px_up s 48 0 (s 7 0)) 48 1 ((px_up s 48 0 (s 7 0)) 7 1)) 7 2)) 7 3)) 48 4 ((px_up (px_up (px_up (px_up s 48 0 (s 7 0)) 48 1 ((px_up s 48 0 (s 7 0)) 7 1)) 48 2 ((px_up (px_up s 48 0 (s 7 0)) 48 1 ((px_up s 48 0 (s 7 0)) 7 1)) 7 2)) 48 3 ((px_up (px_up (px_up s 48 0 (s 7 0)) 48 1 ((px_up s 48 0 (s 7 0)) 7 1)) 48 2 ((px_up (px_up s 48 0 (s 7 0)) 48 1 ((px_up s 48 0 (s 7 0)) 7 1)) 7 2)) 7 3)) 7 4)) 48 5 ((px_up (px_up (px_up (px_up (px_up s 48 0 (s 7 0)) 48 1 ((px_up s 48 0 (s 7 0)) 7 1)) 48 2 ((px_up (px_up s 48 0 (s 7 0)) 48 1 ((px_up s 48 0 (s 7 0)) 7 1)) 7 2)) 48 3 ((px_up (px_up (px_up s 48 0 (s 7 0)) 48 1 ((px_up s 48 0 (s 7 0)) 7 1)) 48 2 ((px_up (px_up s 48 0 (s 7 0)) 48 1 ((px_up s 48 0 (s 7 0)) 7 1)) 7 2)) 7 3)) 48 4 ((px_up (px_up (px_up (px_up s 48 0 (s 7 0)) 48 1 ((px_up s 48 0 (s 7 0)) 7 1)) 48 2 ((px_up (px_up s 48 0 (s 7 0)) 48 1 ((px_up s 48 0 (s 7 0)) 7 1)) 7 2)) 48 3 ((px_up (px_up (px_up s 48 0 (s 7 0)) 48 1 ((px_up s 48 0 (s 7 0)) 7 1)) 48 2 ((px_up (px_up s 48 0 (s 7 0)) 48 1 ((px_up s 48 0 (s 7 0)) 7 1)) 7 2)) 7 3)) 7 4)) 7 5))) rfl ?_
  by_cases hc1 : ((px_up (px_up (px_up (px_up (px_up (px_up s 48 0 (s 7 0)) 48 1 ((px_up s 48 0 (s 7 0)) 7 1)) 48 2 ((px_up (px_up s 48 0 (s 7 0)) 48 1 ((px_up s 48 0 (s 7 0)) 7 1)) 7 2)) 48 3 ((px_up (px_up (px_up s 48 0 (s 7 0)) 48 1 ((px_up s 48 0 (s 7 0)) 7 1)) 48 2 ((px_up (px_up s 48 0 (s 7 0)) 48 1 ((px_up s 48 0 (s 7 0)) 7 1)) 7 2)) 7 3)) 48 4 ((px_up (px_up (px_up (px_up s 48 0 (s 7 0)) 48 1 ((px_up s 48 0 (s 7 0)) 7 1)) 48 2 ((px_up (px_up s 48 0 (s 7 0)) 48 1 ((px_up s 48 0 (s 7 0)) 7 1)) 7 2)) 48 3 ((px_up (px_up (px_up s 48 0 (s 7 0)) 48 1 ((px_up s 48 0 (s 7 0)) 7 1)) 48 2 ((px_up (px_up s 48 0 (s 7 0)) 48 1 ((px_up s 48 0 (s 7 0)) 7 1)) 7 2)) 7 3)) 7 4)) 48 5 ((px_up (px_up (px_up (px_up (px_up s 48 0 (s 7 0)) 48 1 ((px_up s 48 0 (s 7 0)) 7 1)) 48 2 ((px_up (px_up s 48 0 (s 7 0)) 48 1 ((px_up s 48 0 (s 7 0)) 7 1)) 7 2)) 48 3 ((px_up (px_up (px_up s 48 0 (s 7 0)) 48 1 ((px_up s 48 0 (s 7 0)) 7 1)) 48 2 ((px_up (px_up s 48 0 (s 7 0)) 48 1 ((px_up s 48 0 (s 7 0)) 7 1)) 7 2)) 7 3)) 48 4 ((px_up (px_up (px_up (px_up s 48 0 (s 7 0)) 48 1 ((px_up s 48 0 (s 7 0)) 7 1)) 48 2 ((px_up (px_up s 48 0 (s 7 0)) 48 1 ((px_up s 48 0 (s 7 0)) 7 1)) 7 2)) 48 3 ((px_up (px_up (px_up s 48 0 (s 7 0)) 48 1 ((px_up s 48 0 (s 7 0)) 7 1)) 48 2 ((px_up (px_up s 48 0 (s 7 0)) 48 1 ((px_up s 48 0 (s 7 0)) 7 1)) 7 2)) 7 3)) 7 4)) 7 5)) 7 6) = 0 ∨ ((px_up (px_up (px_up (px_up (px_up (px_up s 48 0 (s 7 0)) 48 1 ((px_up s 48 0 (s 7 0)) 7 1)) 48 2 ((px_up (px_up s 48 0 (s 7 0)) 48 1 ((px_up s 48 0 (s 7 0)) 7 1)) 7 2)) 48 3 ((px_up (px_up (px_up s 48 0 (s 7 0)) 48 1 ((px_up s 48 0 (s 7 0)) 7 1)) 48 2 ((px_up (px_up s 48 0 (s 7 0)) 48 1 ((px_up s 48 0 (s 7 0)) 7 1)) 7 2)) 7 3)) 48 4 ((px_up (px_up (px_up (px_up s 48 0 (s 7 0)) 48 1 ((px_up s 48 0 (s 7 0)) 7 1)) 48 2 ((px_up (px_up s 48 0 (s 7 0)) 48 1 ((px_up s 48 0 (s 7 0)) 7 1)) 7 2)) 48 3 ((px_up (px_up (px_up s 48 0 (s 7 0)) 48 1 ((px_up s 48 0 (s 7 0)) 7 1)) 48 2 ((px_up (px_up s 48 0 (s 7 0)) 48 1 ((px_up s 48 0 (s 7 0)) 7 1)) 7 2)) 7 3)) 7 4)) 48 5 ((px_up (px_up (px_up (px_up (px_up s 48 0 (s 7 0)) 48 1 ((px_up s 48 0 (s 7 0)) 7 1)) 48 2 ((px_up (px_up s 48 0 (s 7 0)) 48 1 ((px_up s 48 0 (s 7 0)) 7 1)) 7 2)) 48 3 ((px_up (px_up (px_up s 48 0 (s 7 0)) 48 1 ((px_up s 48 0 (s 7 0)) 7 1)) 48 2 ((px_up (px_up s 48 0 (s 7 0)) 48 1 ((px_up s 48 0 (s 7 0)) 7 1)) 7 2)) 7 3)) 48 4 ((px_up (px_up (px_up (px_up s 48 0 (s 7 0)) 48 1 ((px_up s 48 0 (s 7 0)) 7 1)) 48 2 ((px_up (px_up s 48 0 (s 7 0)) 48 1 ((px_up s 48 0 (s 7 0)) 7 1)) 7 2)) 48 3 ((px_up (px_up (px_up s 48 0 (s 7 0)) 48 1 ((px_up s 48 0 (s 7 0)) 7 1)) 48 2 ((px_up (px_up s 48 0 (s 7 0)) 48 1 ((px_up s 48 0 (s 7 0)) 7 1)) 7 2)) 7 3)) 7 4)) 7 5)) 7 6) = 1
  case neg => rw [if_neg hc1] at h; cases h
  rw [if_pos hc1] at h
  refine px_D_putz (k := 43) rfl rfl rfl rfl hc1 ?_
  refine px_D_st 36 (ip1 := 64) (ls1 := [(0, .inr (.inr 48)), (1, .inr (.inr 7))]) (st1 := []) (h1 := (px_G1, px_cp (px_cp (px_cp (px_cp (px_up (px_up (px_up (px_up (px_up (px_up (px_up (px_up s 48 0 (s 7 0)) 48 1 ((px_up s 48 0 (s 7 0)) 7 1)) 48 2 ((px_up (px_up s 48 0 (s 7 0)) 48 1 ((px_up s 48 0 (s 7 0)) 7 1)) 7 2)) 48 3 ((px_up (px_up (px_up s 48 0 (s 7 0)) 48 1 ((px_up s 48 0 (s 7 0)) 7 1)) 48 2 ((px_up (px_up s 48 0 (s 7 0)) 48 1 ((px_up s 48 0 (s 7 0)) 7 1)) 7 2)) 7 3)) 48 4 ((px_up (px_up (px_up (px_up s 48 0 (s 7 0)) 48 1 ((px_up s 48 0 (s 7 0)) 7 1)) 48 2 ((px_up (px_up s 48 0 (s 7 0)) 48 1 ((px_up s 48 0 (s 7 0)) 7 1)) 7 2)) 48 3 ((px_up (px_up (px_up s 48 0 (s 7 0)) 48 1 ((px_up s 48 0 (s 7 0)) 7 1)) 48 2 ((px_up (px_up s 48 0 (s 7 0)) 48 1 ((px_up s 48 0 (s 7 0)) 7 1)) 7 2)) 7 3)) 7 4)) 48 5 ((px_up (px_up (px_up (px_up (px_up s 48 0 (s 7 0)) 48 1 ((px_up s 48 0 (s 7 0)) 7 1)) 48 2 ((px_up (px_up s 48 0 (s 7 0)) 48 1 ((px_up s 48 0 (s 7 0)) 7 1)) 7 2)) 48 3 ((px_up (px_up (px_up s 48 0 (s 7 0)) 48 1 ((px_up s 48 0 (s 7 0)) 7 1)) 48 2 ((px_up (px_up s 48 0 (s 7 0)) 48 1 ((px_up s 48 0 (s 7 0)) 7 1)) 7 2)) 7 3)) 48 4 ((px_up (px_up (px_up (px_up s 48 0 (s 7 0)) 48 1 ((px_up s 48 0 (s 7 0)) 7 1)) 48 2 ((px_up (px_up s 48 0 (s 7 0)) 48 1 ((px_up s 48 0 (s 7 0)) 7 1)) 7 2)) 48 3 ((px_up (px_up (px_up s 48 0 (s 7 0)) 48 1 ((px_up s 48 0 (s 7 0)) 7 1)) 48 2 ((px_up (px_up s 48 0 (s 7 0)) 48 1 ((px_up s 48 0 (s 7 0)) 7 1)) 7 2)) 7 3)) 7 4)) 7 5)) 48 6 ((px_up (px_up (px_up (px_up (px_up (px_up s 48 0 (s 7 0)) 48 1 ((px_up s 48 0 (s 7 0)) 7 1)) 48 2 ((px_up (px_up s 48 0 (s 7 0)) 48 1 ((px_up s 48 0 (s 7 0)) 7 1)) 7 2)) 48 3 ((px_up (px_up (px_up s 48 0 (s 7 0)) 48 1 ((px_up s 48 0 (s 7 0)) 7 1)) 48 2 ((px_up (px_up s 48 0 (s 7 0)) 48 1 ((px_up s 48 0 (s 7 0)) 7 1)) 7 2)) 7 3)) 48 4 ((px_up (px_up (px_up (px_up s 48 0 (s 7 0)) 48 1 ((px_up s 48 0 (s 7 0)) 7 1)) 48 2 ((px_up (px_up s 48 0 (s 7 0)) 48 1 ((px_up s 48 0 (s 7 0)) 7 1)) 7 2)) 48 3 ((px_up (px_up (px_up s 48 0 (s 7 0)) 48 1 ((px_up s 48 0 (s 7 0)) 7 1)) 48 2 ((px_up (px_up s 48 0 (s 7 0)) 48 1 ((px_up s 48 0 (s 7 0)) 7 1)) 7 2)) 7 3)) 7 4)) 48 5 ((px_up (px_up (px_up (px_up (px_up s 48 0 (s 7 0)) 48 1 ((px_up s 48 0 (s 7 0)) 7 1)) 48 2 ((px_up (px_up s 48 0 (s 7 0)) 48 1 ((px_up s 48 0 (s 7 0)) 7 1)) 7 2)) 48 3 ((px_up (px_up (px_up s 48 0 (s 7 0)) 48 1 ((px_up s 48 0 (s 7 0)) 7 1)) 48 2 ((px_up (px_up s 48 0 (s 7 0)) 48 1 ((px_up s 48 0 (s 7 0)) 7 1)) 7 2)) 7 3)) 48 4 ((px_up (px_up (px_up (px_up s 48 0 (s 7 0)) 48 1 ((px_up s 48 0 (s 7 0)) 7 1)) 48 2 ((px_up (px_up s 48 0 (s 7 0)) 48 1 ((px_up s 48 0 (s 7 0)) 7 1)) 7 2)) 48 3 ((px_up (px_up (px_up s 48 0 (s 7 0)) 48 1 ((px_up s 48 0 (s 7 0)) 7 1)) 48 2 ((px_up (px_up s 48 0 (s 7 0)) 48 1 ((px_up s 48 0 (s 7 0)) 7 1)) 7 2)) 7 3)) 7 4)) 7 5)) 7 6)) 48 7 ((px_up (px_up (px_up (px_up (px_up (px_up (px_up s 48 0 (s 7 0)) 48 1 ((px_up s 48 0 (s 7 0)) 7 1)) 48 2 ((px_up (px_up s 48 0 (s 7 0)) 48 1 ((px_up s 48 0 (s 7 0)) 7 1)) 7 2)) 48 3 ((px_up (px_up (px_up s 48 0 (s 7 0)) 48 1 ((px_up s 48 0 (s 7 0)) 7 1)) 48 2 ((px_up (px_up s 48 0 (s 7 0)) 48 1 ((px_up s 48 0 (s 7 0)) 7 1)) 7 2)) 7 3)) 48 4 ((px_up (px_up (px_up (px_up s 48 0 (s 7 0)) 48 1 ((px_up s 48 0 (s 7 0)) 7 1)) 48 2 ((px_up (px_up s 48 0 (s 7 0)) 48 1 ((px_up s 48 0 (s 7 0)) 7 1)) 7 2)) 48 3 ((px_up (px_up (px_up s 48 0 (s 7 0)) 48 1 ((px_up s 48 0 (s 7 0)) 7 1)) 48 2 ((px_up (px_up s 48 0 (s 7 0)) 48 1 ((px_up s 48 0 (s 7 0)) 7 1)) 7 2)) 7 3)) 7 4)) 48 5 ((px_up (px_up (px_up (px_up (px_up s 48 0 (s 7 0)) 48 1 ((px_up s 48 0 (s 7 0)) 7 1)) 48 2 ((px_up (px_up s 48 0 (s 7 0)) 48 1 ((px_up s 48 0 (s 7 0)) 7 1)) 7 2)) 48 3 ((px_up (px_up (px_up s 48 0 (s 7 0)) 48 1 ((px_up s 48 0 (s 7 0)) 7 1)) 48 2 ((px_up (px_up s 48 0 (s 7 0)) 48 1 ((px_up s 48 0 (s 7 0)) 7 1)) 7 2)) 7 3)) 48 4 ((px_up (px_up (px_up (px_up s 48 0 (s 7 0)) 48 1 ((px_up s 48 0 (s 7 0)) 7 1)) 48 2 ((px_up (px_up s 48 0 (s 7 0)) 48 1 ((px_up s 48 0 (s 7 0)) 7 1)) 7 2)) 48 3 ((px_up (px_up (px_up s 48 0 (s 7 0)) 48 1 ((px_up s 48 0 (s 7 0)) 7 1)) 48 2 ((px_up (px_up s 48 0 (s 7 0)) 48 1 ((px_up s 48 0 (s 7 0)) 7 1)) 7 2)) 7 3)) 7 4)) 7 5)) 48 6 ((px_up (px_up (px_up (px_up (px_up (px_up s 48 0 (s 7 0)) 48 1 ((px_up s 48 0 (s 7 0)) 7 1)) 48 2 ((px_up (px_up s 48 0 (s 7 0)) 48 1 ((px_up s 48 0 (s 7 0)) 7 1)) 7 2)) 48 3 ((px_up (px_up (px_up s 48 0 (s 7 0)) 48 1 ((px_up s 48 0 (s 7 0)) 7 1)) 48 2 ((px_up (px_up s 48 0 (s 7 0)) 48 1 ((px_up s 48 0 (s 7 0)) 7 1)) 7 2)) 7 3)) 48 4 ((px_up (px_up (px_up (px_up s 48 0 (s 7 0)) 48 1 ((px_up s 48 0 (s 7 0)) 7 1)) 48 2 ((px_up (px_up s 48 0 (s 7 0)) 48 1 ((px_up s 48 0 (s 7 0)) 7 1)) 7 2)) 48 3 ((px_up (px_up (px_up s 48 0 (s 7 0)) 48 1 ((px_up s 48 0 (s 7 0)) 7 1)) 48 2 ((px_up (px_up s 48 0 (s 7 0)) 48 1 ((px_up s 48 0 (s 7 0)) 7 1)) 7 2)) 7 3)) 7 4)) 48 5 ((px_up (px_up (px_up (px_up (px_up s 48 0 (s 7 0)) 48 1 ((px_up s 48 0 (s 7 0)) 7 1)) 48 2 ((px_up (px_up s 48 0 (s 7 0)) 48 1 ((px_up s 48 0 (s 7 0)) 7 1)) 7 2)) 48 3 ((px_up (px_up (px_up s 48 0 (s 7 0)) 48 1 ((px_up s 48 0 (s 7 0)) 7 1)) 48 2 ((px_up (px_up s 48 0 (s 7 0)) 48 1 ((px_up s 48 0 (s 7 0)) 7 1)) 7 2)) 7 3)) 48 4 ((px_up (px_up (px_up (px_up s 48 0 (s 7 0)) 48 1 ((px_up s 48 0 (s 7 0)) 7 1)) 48 2 ((px_up (px_up s 48 0 (s 7 0)) 48 1 ((px_up s 48 0 (s 7 0)) 7 1)) 7 2)) 48 3 ((px_up (px_up (px_up s 48 0 (s 7 0)) 48 1 ((px_up s 48 0 (s 7 0)) 7 1)) 48 2 ((px_up (px_up s 48 0 (s 7 0)) 48 1 ((px_up s 48 0 (s 7 0)) 7 1)) 7 2)) 7 3)) 7 4)) 7 5)) 7 6)) 7 7)) 8 49 0 0 8) 9 50 0 0 8) 10 51 0 0 8) 11 52 0 0 8)) rfl ?_
  cases h
  exact px_D_vret rfl ⟨rfl, rfl⟩

def f_World_tellAfter_2 (s : px_Z) (x2 : Int) : Option (px_Z) := some (px_up (px_cp s 13 54 0 0 8) 47 7 x2)
set_option maxHeartbeats 4000000 in
set_option maxRecDepth 100000 in
theorem c_World_tellAfter_2 {sc : List Int} {d : Nat} {s : px_Z} {x2 : Int} {out : px_Z} (h : f_World_tellAfter_2 s x2 = some out) : px_D sc (d + 0) 83 0 [(0, .inr (.inr 47)), (1, .inr (.inr 13)), (2, .inl (x2))] [] (px_G1, s) (px_Qv out) := by
  unfold f_World_tellAfter_2 at h
  refine px_D_st 10 (ip1 := 10) (ls1 := [(0, .inr (.inr 47)), (1, .inr (.inr 13)), (2, .inl (x2))]) (st1 := []) (h1 := (px_G1, px_up (px_cp s 13 54 0 0 8) 47 7 x2)) rfl ?_
  cases h
  exact px_D_vret rfl ⟨rfl, rfl⟩

def f_Plan_become_2 (s : px_Z) : Option (px_Z) := some (px_cp (px_cp (px_cp (px_up s 75 0 (s 34 0)) 35 76 0 0 60) 36 77 0 0 60) 37 78 0 0 60)
set_option maxHeartbeats 4000000 in
set_option maxRecDepth 100000 in
theorem c_Plan_become_2 {sc : List Int} {d : Nat} {s : px_Z} {out : px_Z} (h : f_Plan_become_2 s  = some out) : px_D sc (d + 0) 38 0 [(0, .inr (.inr 75)), (1, .inr (.inr 34))] [] (px_G1, s) (px_Qv out) := by
  unfold f_Plan_become_2 at h
  refine px_D_st 28 (ip1 := 28) (ls1 := [(0, .inr (.inr 75)), (1, .inr (.inr 34))]) (st1 := []) (h1 := (px_G1, px_cp (px_cp (px_cp (px_up s 75 0 (s 34 0)) 35 76 0 0 60) 36 77 0 0 60) 37 78 0 0 60)) rfl ?_
  cases h
  exact px_D_vret rfl ⟨rfl, rfl⟩

def f_Hills_become_2 (s : px_Z) : Option (px_Z) := some (px_cp (px_cp (px_cp (px_cp (px_cp (px_up s 69 0 (s 28 0)) 29 70 0 0 24) 30 71 0 0 24) 31 72 0 0 24) 32 73 0 0 24) 33 74 0 0 24)
set_option maxHeartbeats 4000000 in
set_option maxRecDepth 100000 in
theorem c_Hills_become_2 {sc : List Int} {d : Nat} {s : px_Z} {out : px_Z} (h : f_Hills_become_2 s  = some out) : px_D sc (d + 0) 4 0 [(0, .inr (.inr 69)), (1, .inr (.inr 28))] [] (px_G1, s) (px_Qv out) := by
  unfold f_Hills_become_2 at h
  refine px_D_st 44 (ip1 := 44) (ls1 := [(0, .inr (.inr 69)), (1, .inr (.inr 28))]) (st1 := []) (h1 := (px_G1, px_cp (px_cp (px_cp (px_cp (px_cp (px_up s 69 0 (s 28 0)) 29 70 0 0 24) 30 71 0 0 24) 31 72 0 0 24) 32 73 0 0 24) 33 74 0 0 24)) rfl ?_
  cases h
  exact px_D_vret rfl ⟨rfl, rfl⟩

def f_Law_become_4 (s : px_Z) : Option (px_Z) := some (px_cp (px_cp (px_cp (px_cp (px_cp (px_up (px_up s 62 0 (s 21 0)) 62 1 ((px_up s 62 0 (s 21 0)) 21 1)) 22 63 0 0 16) 23 64 0 0 16) 24 65 0 0 16) 25 66 0 0 16) 26 67 0 0 400)
set_option maxHeartbeats 4000000 in
set_option maxRecDepth 100000 in
theorem c_Law_become_4 {sc : List Int} {d : Nat} {s : px_Z} {out : px_Z} (h : f_Law_become_4 s  = some out) : px_D sc (d + 0) 13 0 [(0, .inr (.inr 62)), (1, .inr (.inr 21))] [] (px_G1, s) (px_Qv out) := by
  unfold f_Law_become_4 at h
  refine px_D_st 48 (ip1 := 48) (ls1 := [(0, .inr (.inr 62)), (1, .inr (.inr 21))]) (st1 := []) (h1 := (px_G1, px_cp (px_cp (px_cp (px_cp (px_cp (px_up (px_up s 62 0 (s 21 0)) 62 1 ((px_up s 62 0 (s 21 0)) 21 1)) 22 63 0 0 16) 23 64 0 0 16) 24 65 0 0 16) 25 66 0 0 16) 26 67 0 0 400)) rfl ?_
  cases h
  exact px_D_vret rfl ⟨rfl, rfl⟩

def f_World_become (s : px_Z) : Option (px_Z) := (f_Fate_become_13 s ).bind (fun q1 => (f_World_tellAfter_2 (px_cp (px_up (px_up (px_up (px_up q1 47 1 (q1 6 1)) 47 2 ((px_up q1 47 1 (q1 6 1)) 6 2)) 47 3 ((px_up (px_up q1 47 1 (q1 6 1)) 47 2 ((px_up q1 47 1 (q1 6 1)) 6 2)) 6 3)) 47 4 ((px_up (px_up (px_up q1 47 1 (q1 6 1)) 47 2 ((px_up q1 47 1 (q1 6 1)) 6 2)) 47 3 ((px_up (px_up q1 47 1 (q1 6 1)) 47 2 ((px_up q1 47 1 (q1 6 1)) 6 2)) 6 3)) 6 4)) 12 53 0 0 8) ((px_cp (px_up (px_up (px_up (px_up q1 47 1 (q1 6 1)) 47 2 ((px_up q1 47 1 (q1 6 1)) 6 2)) 47 3 ((px_up (px_up q1 47 1 (q1 6 1)) 47 2 ((px_up q1 47 1 (q1 6 1)) 6 2)) 6 3)) 47 4 ((px_up (px_up (px_up q1 47 1 (q1 6 1)) 47 2 ((px_up q1 47 1 (q1 6 1)) 6 2)) 47 3 ((px_up (px_up q1 47 1 (q1 6 1)) 47 2 ((px_up q1 47 1 (q1 6 1)) 6 2)) 6 3)) 6 4)) 12 53 0 0 8) 6 7)).bind (fun q2 => (f_Law_become_3 q2 ).bind (fun q3 => (f_Law_become_4 q3 ).bind (fun q4 => (f_Hills_become_2 q4 ).bind (fun q5 => (f_Plan_become_2 q5 ).bind (fun q6 => (f_Told_become q6 ).bind (fun q7 => some (px_cp q7 45 86 0 0 600))))))))
set_option maxHeartbeats 4000000 in
set_option maxRecDepth 100000 in
theorem c_World_become {sc : List Int} {d : Nat} {s : px_Z} {out : px_Z} (h : f_World_become s  = some out) : px_D sc (d + 1) 81 0 [(0, .inr (.inr 47)), (1, .inr (.inr 6))] [] (px_G1, s) (px_Qv out) := by
  unfold f_World_become at h
  refine px_D_st 4 (ip1 := 4) (ls1 := [(0, .inr (.inr 47)), (1, .inr (.inr 6))]) (st1 := [.inr (.inr 7), .inr (.inr 48)]) (h1 := (px_G1, s)) rfl ?_
  refine px_D_call (as := [.inr (.inr 48), .inr (.inr 7)]) (rest := []) rfl rfl rfl rfl ?_
  obtain ⟨q1, hq1, h⟩ := Option.bind_eq_some_iff.mp h
  refine px_D_mono (c_Fate_become_13 (d := d + 0) hq1) ?_
  rintro _ _ ⟨rfl, rfl⟩
  show px_D sc (d + 1) 81 5 [(0, .inr (.inr 47)), (1, .inr (.inr 6))] [] (px_G1, q1) _
  refine px_D_st 29 (ip1 := 34) (ls1 := [(0, .inr (.inr 47)), (1, .inr (.inr 6))]) (st1 := [.inl ((px_cp (px_up (px_up (px_up (px_up q1 47 1 (q1 6 1)) 47 2 ((px_up q1 47 1 (q1 6 1)) 6 2)) 47 3 ((px_up (px_up q1 47 1 (q1 6 1)) 47 2 ((px_up q1 47 1 (q1 6 1)) 6 2)) 6 3)) 47 4 ((px_up (px_up (px_up q1 47 1 (q1 6 1)) 47 2 ((px_up q1 47 1 (q1 6 1)) 6 2)) 47 3 ((px_up (px_up q1 47 1 (q1 6 1)) 47 2 ((px_up q1 47 1 (q1 6 1)) 6 2)) 6 3)) 6 4)) 12 53 0 0 8) 6 7), .inr (.inr 13), .inr (.inr 47)]) (h1 := (px_G1, px_cp (px_up (px_up (px_up (px_up q1 47 1 (q1 6 1)) 47 2 ((px_up q1 47 1 (q1 6 1)) 6 2)) 47 3 ((px_up (px_up q1 47 1 (q1 6 1)) 47 2 ((px_up q1 47 1 (q1 6 1)) 6 2)) 6 3)) 47 4 ((px_up (px_up (px_up q1 47 1 (q1 6 1)) 47 2 ((px_up q1 47 1 (q1 6 1)) 6 2)) 47 3 ((px_up (px_up q1 47 1 (q1 6 1)) 47 2 ((px_up q1 47 1 (q1 6 1)) 6 2)) 6 3)) 6 4)) 12 53 0 0 8)) rfl ?_
  refine px_D_call (as := [.inr (.inr 47), .inr (.inr 13), .inl ((px_cp (px_up (px_up (px_up (px_up q1 47 1 (q1 6 1)) 47 2 ((px_up q1 47 1 (q1 6 1)) 6 2)) 47 3 ((px_up (px_up q1 47 1 (q1 6 1)) 47 2 ((px_up q1 47 1 (q1 6 1)) 6 2)) 6 3)) 47 4 ((px_up (px_up (px_up q1 47 1 (q1 6 1)) 47 2 ((px_up q1 47 1 (q1 6 1)) 6 2)) 47 3 ((px_up (px_up q1 47 1 (q1 6 1)) 47 2 ((px_up q1 47 1 (q1 6 1)) 6 2)) 6 3)) 6 4)) 12 53 0 0 8) 6 7)]) (rest := []) rfl rfl rfl rfl ?_
  obtain ⟨q2, hq2, h⟩ := Option.bind_eq_some_iff.mp h
  refine px_D_mono (c_World_tellAfter_2 (d := d + 0) hq2) ?_
  rintro _ _ ⟨rfl, rfl⟩
  show px_D sc (d + 1) 81 35 [(0, .inr (.inr 47)), (1, .inr (.inr 6))] [] (px_G1, q2) _
  refine px_D_st 4 (ip1 := 39) (ls1 := [(0, .inr (.inr 47)), (1, .inr (.inr 6))]) (st1 := [.inr (.inr 14), .inr (.inr 55)]) (h1 := (px_G1, q2)) rfl ?_
  refine px_D_call (as := [.inr (.inr 55), .inr (.inr 14)]) (rest := []) rfl rfl rfl rfl ?_
  obtain ⟨q3, hq3, h⟩ := Option.bind_eq_some_iff.mp h
  refine px_D_mono (c_Law_become_3 (d := d + 0) hq3) ?_
  rintro _ _ ⟨rfl, rfl⟩
  show px_D sc (d + 1) 81 40 [(0, .inr (.inr 47)), (1, .inr (.inr 6))] [] (px_G1, q3) _
  refine px_D_st 4 (ip1 := 44) (ls1 := [(0, .inr (.inr 47)), (1, .inr (.inr 6))]) (st1 := [.inr (.inr 21), .inr (.inr 62)]) (h1 := (px_G1, q3)) rfl ?_
  refine px_D_call (as := [.inr (.inr 62), .inr (.inr 21)]) (rest := []) rfl rfl rfl rfl ?_
  obtain ⟨q4, hq4, h⟩ := Option.bind_eq_some_iff.mp h
  refine px_D_mono (c_Law_become_4 (d := d + 0) hq4) ?_
  rintro _ _ ⟨rfl, rfl⟩
  show px_D sc (d + 1) 81 45 [(0, .inr (.inr 47)), (1, .inr (.inr 6))] [] (px_G1, q4) _
  refine px_D_st 4 (ip1 := 49) (ls1 := [(0, .inr (.inr 47)), (1, .inr (.inr 6))]) (st1 := [.inr (.inr 28), .inr (.inr 69)]) (h1 := (px_G1, q4)) rfl ?_
  refine px_D_call (as := [.inr (.inr 69), .inr (.inr 28)]) (rest := []) rfl rfl rfl rfl ?_
  obtain ⟨q5, hq5, h⟩ := Option.bind_eq_some_iff.mp h
  refine px_D_mono (c_Hills_become_2 (d := d + 0) hq5) ?_
  rintro _ _ ⟨rfl, rfl⟩
  show px_D sc (d + 1) 81 50 [(0, .inr (.inr 47)), (1, .inr (.inr 6))] [] (px_G1, q5) _
  refine px_D_st 4 (ip1 := 54) (ls1 := [(0, .inr (.inr 47)), (1, .inr (.inr 6))]) (st1 := [.inr (.inr 34), .inr (.inr 75)]) (h1 := (px_G1, q5)) rfl ?_
  refine px_D_call (as := [.inr (.inr 75), .inr (.inr 34)]) (rest := []) rfl rfl rfl rfl ?_
  obtain ⟨q6, hq6, h⟩ := Option.bind_eq_some_iff.mp h
  refine px_D_mono (c_Plan_become_2 (d := d + 0) hq6) ?_
  rintro _ _ ⟨rfl, rfl⟩
  show px_D sc (d + 1) 81 55 [(0, .inr (.inr 47)), (1, .inr (.inr 6))] [] (px_G1, q6) _
  refine px_D_st 4 (ip1 := 59) (ls1 := [(0, .inr (.inr 47)), (1, .inr (.inr 6))]) (st1 := [.inr (.inr 38), .inr (.inr 79)]) (h1 := (px_G1, q6)) rfl ?_
  refine px_D_call (as := [.inr (.inr 79), .inr (.inr 38)]) (rest := []) rfl rfl rfl rfl ?_
  obtain ⟨q7, hq7, h⟩ := Option.bind_eq_some_iff.mp h
  refine px_D_mono (c_Told_become (d := d + 0) hq7) ?_
  rintro _ _ ⟨rfl, rfl⟩
  show px_D sc (d + 1) 81 60 [(0, .inr (.inr 47)), (1, .inr (.inr 6))] [] (px_G1, q7) _
  refine px_D_st 10 (ip1 := 70) (ls1 := [(0, .inr (.inr 47)), (1, .inr (.inr 6))]) (st1 := []) (h1 := (px_G1, px_cp q7 45 86 0 0 600)) rfl ?_
  cases h
  exact px_D_vret rfl ⟨rfl, rfl⟩

def f_Told_become_2 (s : px_Z) : Option (px_Z) := some (px_cp (px_cp (px_cp (px_cp (px_cp (px_cp (px_up (px_up (px_up s 38 0 (s 79 0)) 38 1 ((px_up s 38 0 (s 79 0)) 79 1)) 38 2 ((px_up (px_up s 38 0 (s 79 0)) 38 1 ((px_up s 38 0 (s 79 0)) 79 1)) 79 2)) 80 39 0 0 8) 81 40 0 0 12) 82 41 0 0 12) 83 42 0 0 12) 84 43 0 0 12) 85 44 0 0 12)
set_option maxHeartbeats 4000000 in
set_option maxRecDepth 100000 in
theorem c_Told_become_2 {sc : List Int} {d : Nat} {s : px_Z} {out : px_Z} (h : f_Told_become_2 s  = some out) : px_D sc (d + 0) 67 0 [(0, .inr (.inr 38)), (1, .inr (.inr 79))] [] (px_G1, s) (px_Qv out) := by
  unfold f_Told_become_2 at h
  refine px_D_st 60 (ip1 := 60) (ls1 := [(0, .inr (.inr 38)), (1, .inr (.inr 79))]) (st1 := []) (h1 := (px_G1, px_cp (px_cp (px_cp (px_cp (px_cp (px_cp (px_up (px_up (px_up s 38 0 (s 79 0)) 38 1 ((px_up s 38 0 (s 79 0)) 79 1)) 38 2 ((px_up (px_up s 38 0 (s 79 0)) 38 1 ((px_up s 38 0 (s 79 0)) 79 1)) 79 2)) 80 39 0 0 8) 81 40 0 0 12) 82 41 0 0 12) 83 42 0 0 12) 84 43 0 0 12) 85 44 0 0 12)) rfl ?_
  cases h
  exact px_D_vret rfl ⟨rfl, rfl⟩

def f_Plan_become_3 (s : px_Z) : Option (px_Z) := some (px_cp (px_cp (px_cp (px_up s 34 0 (s 75 0)) 76 35 0 0 60) 77 36 0 0 60) 78 37 0 0 60)
set_option maxHeartbeats 4000000 in
set_option maxRecDepth 100000 in
theorem c_Plan_become_3 {sc : List Int} {d : Nat} {s : px_Z} {out : px_Z} (h : f_Plan_become_3 s  = some out) : px_D sc (d + 0) 38 0 [(0, .inr (.inr 34)), (1, .inr (.inr 75))] [] (px_G1, s) (px_Qv out) := by
  unfold f_Plan_become_3 at h
  refine px_D_st 28 (ip1 := 28) (ls1 := [(0, .inr (.inr 34)), (1, .inr (.inr 75))]) (st1 := []) (h1 := (px_G1, px_cp (px_cp (px_cp (px_up s 34 0 (s 75 0)) 76 35 0 0 60) 77 36 0 0 60) 78 37 0 0 60)) rfl ?_
  cases h
  exact px_D_vret rfl ⟨rfl, rfl⟩

def f_Law_become_5 (s : px_Z) : Option (px_Z) := some (px_cp (px_cp (px_cp (px_cp (px_cp (px_up (px_up s 14 0 (s 55 0)) 14 1 ((px_up s 14 0 (s 55 0)) 55 1)) 56 15 0 0 16) 57 16 0 0 16) 58 17 0 0 16) 59 18 0 0 16) 60 19 0 0 400)
set_option maxHeartbeats 4000000 in
set_option maxRecDepth 100000 in
theorem c_Law_become_5 {sc : List Int} {d : Nat} {s : px_Z} {out : px_Z} (h : f_Law_become_5 s  = some out) : px_D sc (d + 0) 13 0 [(0, .inr (.inr 14)), (1, .inr (.inr 55))] [] (px_G1, s) (px_Qv out) := by
  unfold f_Law_become_5 at h
  refine px_D_st 48 (ip1 := 48) (ls1 := [(0, .inr (.inr 14)), (1, .inr (.inr 55))]) (st1 := []) (h1 := (px_G1, px_cp (px_cp (px_cp (px_cp (px_cp (px_up (px_up s 14 0 (s 55 0)) 14 1 ((px_up s 14 0 (s 55 0)) 55 1)) 56 15 0 0 16) 57 16 0 0 16) 58 17 0 0 16) 59 18 0 0 16) 60 19 0 0 400)) rfl ?_
  cases h
  exact px_D_vret rfl ⟨rfl, rfl⟩

def f_Fate_become_14 (s : px_Z) : Option (px_Z) := if ((px_up (px_up (px_up (px_up (px_up (px_up s 7 0 (s 48 0)) 7 1 ((px_up s 7 0 (s 48 0)) 48 1)) 7 2 ((px_up (px_up s 7 0 (s 48 0)) 7 1 ((px_up s 7 0 (s 48 0)) 48 1)) 48 2)) 7 3 ((px_up (px_up (px_up s 7 0 (s 48 0)) 7 1 ((px_up s 7 0 (s 48 0)) 48 1)) 7 2 ((px_up (px_up s 7 0 (s 48 0)) 7 1 ((px_up s 7 0 (s 48 0)) 48 1)) 48 2)) 48 3)) 7 4 ((px_up (px_up (px_up (px_up s 7 0 (s 48 0)) 7 1 ((px_up s 7 0 (s 48 0)) 48 1)) 7 2 ((px_up (px_up s 7 0 (s 48 0)) 7 1 ((px_up s 7 0 (s 48 0)) 48 1)) 48 2)) 7 3 ((px_up (px_up (px_up s 7 0 (s 48 0)) 7 1 ((px_up s 7 0 (s 48 0)) 48 1)) 7 2 ((px_up (px_up s 7 0 (s 48 0)) 7 1 ((px_up s 7 0 (s 48 0)) 48 1)) 48 2)) 48 3)) 48 4)) 7 5 ((px_up (px_up (px_up (px_up (px_up s 7 0 (s 48 0)) 7 1 ((px_up s 7 0 (s 48 0)) 48 1)) 7 2 ((px_up (px_up s 7 0 (s 48 0)) 7 1 ((px_up s 7 0 (s 48 0)) 48 1)) 48 2)) 7 3 ((px_up (px_up (px_up s 7 0 (s 48 0)) 7 1 ((px_up s 7 0 (s 48 0)) 48 1)) 7 2 ((px_up (px_up s 7 0 (s 48 0)) 7 1 ((px_up s 7 0 (s 48 0)) 48 1)) 48 2)) 48 3)) 7 4 ((px_up (px_up (px_up (px_up s 7 0 (s 48 0)) 7 1 ((px_up s 7 0 (s 48 0)) 48 1)) 7 2 ((px_up (px_up s 7 0 (s 48 0)) 7 1 ((px_up s 7 0 (s 48 0)) 48 1)) 48 2)) 7 3 ((px_up (px_up (px_up s 7 0 (s 48 0)) 7 1 ((px_up s 7 0 (s 48 0)) 48 1)) 7 2 ((px_up (px_up s 7 0 (s 48 0)) 7 1 ((px_up s 7 0 (s 48 0)) 48 1)) 48 2)) 48 3)) 48 4)) 48 5)) 48 6) = 0 ∨ ((px_up (px_up (px_up (px_up (px_up (px_up s 7 0 (s 48 0)) 7 1 ((px_up s 7 0 (s 48 0)) 48 1)) 7 2 ((px_up (px_up s 7 0 (s 48 0)) 7 1 ((px_up s 7 0 (s 48 0)) 48 1)) 48 2)) 7 3 ((px_up (px_up (px_up s 7 0 (s 48 0)) 7 1 ((px_up s 7 0 (s 48 0)) 48 1)) 7 2 ((px_up (px_up s 7 0 (s 48 0)) 7 1 ((px_up s 7 0 (s 48 0)) 48 1)) 48 2)) 48 3)) 7 4 ((px_up (px_up (px_up (px_up s 7 0 (s 48 0)) 7 1 ((px_up s 7 0 (s 48 0)) 48 1)) 7 2 ((px_up (px_up s 7 0 (s 48 0)) 7 1 ((px_up s 7 0 (s 48 0)) 48 1)) 48 2)) 7 3 ((px_up (px_up (px_up s 7 0 (s 48 0)) 7 1 ((px_up s 7 0 (s 48 0)) 48 1)) 7 2 ((px_up (px_up s 7 0 (s 48 0)) 7 1 ((px_up s 7 0 (s 48 0)) 48 1)) 48 2)) 48 3)) 48 4)) 7 5 ((px_up (px_up (px_up (px_up (px_up s 7 0 (s 48 0)) 7 1 ((px_up s 7 0 (s 48 0)) 48 1)) 7 2 ((px_up (px_up s 7 0 (s 48 0)) 7 1 ((px_up s 7 0 (s 48 0)) 48 1)) 48 2)) 7 3 ((px_up (px_up (px_up s 7 0 (s 48 0)) 7 1 ((px_up s 7 0 (s 48 0)) 48 1)) 7 2 ((px_up (px_up s 7 0 (s 48 0)) 7 1 ((px_up s 7 0 (s 48 0)) 48 1)) 48 2)) 48 3)) 7 4 ((px_up (px_up (px_up (px_up s 7 0 (s 48 0)) 7 1 ((px_up s 7 0 (s 48 0)) 48 1)) 7 2 ((px_up (px_up s 7 0 (s 48 0)) 7 1 ((px_up s 7 0 (s 48 0)) 48 1)) 48 2)) 7 3 ((px_up (px_up (px_up s 7 0 (s 48 0)) 7 1 ((px_up s 7 0 (s 48 0)) 48 1)) 7 2 ((px_up (px_up s 7 0 (s 48 0)) 7 1 ((px_up s 7 0 (s 48 0)) 48 1)) 48 2)) 48 3)) 48 4)) 48 5)) 48 6) = 1 then some (px_cp (px_cp (px_cp (px_cp (px_up (px_up (px_up (px_up (px_up (px_up (px_up (px_up s 7 0 (s 48 0)) 7 1 ((px_up s 7 0 (s 48 0)) 48 1)) 7 2 ((px_up (px_up s 7 0 (s 48 0)) 7 1 ((px_up s 7 0 (s 48 0)) 48 1)) 48 2)) 7 3 ((px_up (px_up (px_up s 7 0 (s 48 0)) 7 1 ((px_up s 7 0 (s 48 0)) 48 1)) 7 2 ((px_up (px_up s 7 0 (s 48 0)) 7 1 ((px_up s 7 0 (s 48 0)) 48 1)) 48 2)) 48 3)) 7 4 ((px_up (px_up (px_up (px_up s 7 0 (s 48 0)) 7 1 ((px_up s 7 0 (s 48 0)) 48 1)) 7 2 ((px_up (px_up s 7 0 (s 48 0)) 7 1 ((px_up s 7 0 (s 48 0)) 48 1)) 48 2)) 7 3 ((px_up (px_up (px_up s 7 0 (s 48 0)) 7 1 ((px_up s 7 0 (s 48 0)) 48 1)) 7 2 ((px_up (px_up s 7 0 (s 48 0)) 7 1 ((px_up s 7 0 (s 48 0)) 48 1)) 48 2)) 48 3)) 48 4)) 7 5 ((px_up (px_up (px_up (px_up (px_up s 7 0 (s 48 0)) 7 1 ((px_up s 7 0 (s 48 0)) 48 1)) 7 2 ((px_up (px_up s 7 0 (s 48 0)) 7 1 ((px_up s 7 0 (s 48 0)) 48 1)) 48 2)) 7 3 ((px_up (px_up (px_up s 7 0 (s 48 0)) 7 1 ((px_up s 7 0 (s 48 0)) 48 1)) 7 2 ((px_up (px_up s 7 0 (s 48 0)) 7 1 ((px_up s 7 0 (s 48 0)) 48 1)) 48 2)) 48 3)) 7 4 ((px_up (px_up (px_up (px_up s 7 0 (s 48 0)) 7 1 ((px_up s 7 0 (s 48 0)) 48 1)) 7 2 ((px_up (px_up s 7 0 (s 48 0)) 7 1 ((px_up s 7 0 (s 48 0)) 48 1)) 48 2)) 7 3 ((px_up (px_up (px_up s 7 0 (s 48 0)) 7 1 ((px_up s 7 0 (s 48 0)) 48 1)) 7 2 ((px_up (px_up s 7 0 (s 48 0)) 7 1 ((px_up s 7 0 (s 48 0)) 48 1)) 48 2)) 48 3)) 48 4)) 48 5)) 7 6 ((px_up (px_up (px_up (px_up (px_up (px_up s 7 0 (s 48 0)) 7 1 ((px_up s 7 0 (s 48 0)) 48 1)) 7 2 ((px_up (px_up s 7 0 (s 48 0)) 7 1 ((px_up s 7 0 (s 48 0)) 48 1)) 48 2)) 7 3 ((px_up (px_up (px_up s 7 0 (s 48 0)) 7 1 ((px_up s 7 0 (s 48 0)) 48 1)) 7 2 ((px_up (px_up s 7 0 (s 48 0)) 7 1 ((px_up s 7 0 (s 48 0)) 48 1)) 48 2)) 48 3)) 7 4 ((px_up (px_up (px_up (px_up s 7 0 (s 48 0)) 7 1 ((px_up s 7 0 (s 48 0)) 48 1)) 7 2 ((px_up (px_up s 7 0 (s 48 0)) 7 1 ((px_up s 7 0 (s 48 0)) 48 1)) 48 2)) 7 3 ((px_up (px_up (px_up s 7 0 (s 48 0)) 7 1 ((px_up s 7 0 (s 48 0)) 48 1)) 7 2 ((px_up (px_up s 7 0 (s 48 0)) 7 1 ((px_up s 7 0 (s 48 0)) 48 1)) 48 2)) 48 3)) 48 4)) 7 5 ((px_up (px_up (px_up (px_up (px_up s 7 0 (s 48 0)) 7 1 ((px_up s 7 0 (s 48 0)) 48 1)) 7 2 ((px_up (px_up s 7 0 (s 48 0)) 7 1 ((px_up s 7 0 (s 48 0)) 48 1)) 48 2)) 7 3 ((px_up (px_up (px_up s 7 0 (s 48 0)) 7 1 ((px_up s 7 0 (s 48 0)) 48 1)) 7 2 ((px_up (px_up s 7 0 (s 48 0)) 7 1 ((px_up s 7 0 (s 48 0)) 48 1)) 48 2)) 48 3)) 7 4 ((px_up (px_up (px_up (px_up s 7 0 (s 48 0)) 7 1 ((px_up s 7 0 (s 48 0)) 48 1)) 7 2 ((px_up (px_up s 7 0 (s 48 0)) 7 1 ((px_up s 7 0 (s 48 0)) 48 1)) 48 2)) 7 3 ((px_up (px_up (px_up s 7 0 (s 48 0)) 7 1 ((px_up s 7 0 (s 48 0)) 48 1)) 7 2 ((px_up (px_up s 7 0 (s 48 0)) 7 1 ((px_up s 7 0 (s 48 0)) 48 1)) 48 2)) 48 3)) 48 4)) 48 5)) 48 6)) 7 7 ((px_up (px_up (px_up (px_up (px_up (px_up (px_up s 7 0 (s 48 0)) 7 1 ((px_up s 7 0 (s 48 0)) 48 1)) 7 2 ((px_up (px_up s 7 0 (s 48 0)) 7 1 ((px_up s 7 0 (s 48 0)) 48 1)) 48 2)) 7 3 ((px_up (px_up (px_up s 7 0 (s 48 0)) 7 1 ((px_up s 7 0 (s 48 0)) 48 1)) 7 2 ((px_up (px_up s 7 0 (s 48 0)) 7 1 ((px_up s 7 0 (s 48 0)) 48 1)) 48 2)) 48 3)) 7 4 ((px_up (px_up (px_up (px_up s 7 0 (s 48 0)) 7 1 ((px_up s 7 0 (s 48 0)) 48 1)) 7 2 ((px_up (px_up s 7 0 (s 48 0)) 7 1 ((px_up s 7 0 (s 48 0)) 48 1)) 48 2)) 7 3 ((px_up (px_up (px_up s 7 0 (s 48 0)) 7 1 ((px_up s 7 0 (s 48 0)) 48 1)) 7 2 ((px_up (px_up s 7 0 (s 48 0)) 7 1 ((px_up s 7 0 (s 48 0)) 48 1)) 48 2)) 48 3)) 48 4)) 7 5 ((px_up (px_up (px_up (px_up (px_up s 7 0 (s 48 0)) 7 1 ((px_up s 7 0 (s 48 0)) 48 1)) 7 2 ((px_up (px_up s 7 0 (s 48 0)) 7 1 ((px_up s 7 0 (s 48 0)) 48 1)) 48 2)) 7 3 ((px_up (px_up (px_up s 7 0 (s 48 0)) 7 1 ((px_up s 7 0 (s 48 0)) 48 1)) 7 2 ((px_up (px_up s 7 0 (s 48 0)) 7 1 ((px_up s 7 0 (s 48 0)) 48 1)) 48 2)) 48 3)) 7 4 ((px_up (px_up (px_up (px_up s 7 0 (s 48 0)) 7 1 ((px_up s 7 0 (s 48 0)) 48 1)) 7 2 ((px_up (px_up s 7 0 (s 48 0)) 7 1 ((px_up s 7 0 (s 48 0)) 48 1)) 48 2)) 7 3 ((px_up (px_up (px_up s 7 0 (s 48 0)) 7 1 ((px_up s 7 0 (s 48 0)) 48 1)) 7 2 ((px_up (px_up s 7 0 (s 48 0)) 7 1 ((px_up s 7 0 (s 48 0)) 48 1)) 48 2)) 48 3)) 48 4)) 48 5)) 7 6 ((px_up (px_up (px_up (px_up (px_up (px_up s 7 0 (s 48 0)) 7 1 ((px_up s 7 0 (s 48 0)) 48 1)) 7 2 ((px_up (px_up s 7 0 (s 48 0)) 7 1 ((px_up s 7 0 (s 48 0)) 48 1)) 48 2)) 7 3 ((px_up (px_up (px_up s 7 0 (s 48 0)) 7 1 ((px_up s 7 0 (s 48 0)) 48 1)) 7 2 ((px_up (px_up s 7 0 (s 48 0)) 7 1 ((px_up s 7 0 (s 48 0)) 48 1)) 48 2)) 48 3)) 7 4 ((px_up (px_up (px_up (px_up s 7 0 (s 48 0)) 7 1 ((px_up s 7 0 (s 48 0)) 48 1)) 7 2 ((px_up (px_up s 7 0 (s 48 0)) 7 1 ((px_up s 7 0 (s 48 0)) 48 1)) 48 2)) 7 3 ((px_up (px_up (px_up s 7 0 (s 48 0)) 7 1 ((px_up s 7 0 (s 48 0)) 48 1)) 7 2 ((px_up (px_up s 7 0 (s 48 0)) 7 1 ((px_up s 7 0 (s 48 0)) 48 1)) 48 2)) 48 3)) 48 4)) 7 5 ((px_up (px_up (px_up (px_up (px_up s 7 0 (s 48 0)) 7 1 ((px_up s 7 0 (s 48 0)) 48 1)) 7 2 ((px_up (px_up s 7 0 (s 48 0)) 7 1 ((px_up s 7 0 (s 48 0)) 48 1)) 48 2)) 7 3 ((px_up (px_up (px_up s 7 0 (s 48 0)) 7 1 ((px_up s 7 0 (s 48 0)) 48 1)) 7 2 ((px_up (px_up s 7 0 (s 48 0)) 7 1 ((px_up s 7 0 (s 48 0)) 48 1)) 48 2)) 48 3)) 7 4 ((px_up (px_up (px_up (px_up s 7 0 (s 48 0)) 7 1 ((px_up s 7 0 (s 48 0)) 48 1)) 7 2 ((px_up (px_up s 7 0 (s 48 0)) 7 1 ((px_up s 7 0 (s 48 0)) 48 1)) 48 2)) 7 3 ((px_up (px_up (px_up s 7 0 (s 48 0)) 7 1 ((px_up s 7 0 (s 48 0)) 48 1)) 7 2 ((px_up (px_up s 7 0 (s 48 0)) 7 1 ((px_up s 7 0 (s 48 0)) 48 1)) 48 2)) 48 3)) 48 4)) 48 5)) 48 6)) 48 7)) 49 8 0 0 8) 50 9 0 0 8) 51 10 0 0 8) 52 11 0 0 8) else none
set_option maxHeartbeats 4000000 in
set_option maxRecDepth 100000 in
theorem c_Fate_become_14 {sc : List Int} {d : Nat} {s : px_Z} {out : px_Z} (h : f_Fate_become_14 s  = some out) : px_D sc (d + 0) 1 0 [(0, .inr (.inr 7)), (1, .inr (.inr 48))] [] (px_G1, s) (px_Qv out) := by
  unfold f_Fate_become_14 at h
  refine px_D_st 27 (ip1 := 27) (ls1 := [(0, .inr (.inr 7)), (1, .inr (.inr 48))]) (st1 := [.inl ((px_up (px_up (px_up (px_up (px_up (px_up s 7 0 (s 48 0)) 7 1 ((px_up s 7 0 (s 48 0)) 48 1)) 7 2 ((px_up (px_up s 7 0 (s 48 0)) 7 1 ((px_up s 7 0 (s 48 0)) 48 1)) 48 2)) 7 3 ((px_up (px_up (px_up s 7 0 (s 48 0)) 7 1 ((px_up s 7 0 (s 48 0)) 48 1)) 7 2 ((px_up (px_up s 7 0 (s 48 0)) 7 1 ((px_up s 7 0 (s 48 0)) 48 1)) 48 2)) 48 3)) 7 4 ((px_up (px_up (px_up (px_up s 7 0 (s 48 0)) 7 1 ((px_up s 7 0 (s 48 0)) 48 1)) 7 2 ((px_up (px_up s 7 0 (s 48 0)) 7 1 ((px_up s 7 0 (s 48 0)) 48 1)) 48 2)) 7 3 ((px_up (px_up (px_up s 7 0 (s 48 0)) 7 1 ((px_up s 7 0 (s 48 0)) 48 1)) 7 2 ((px_up (px_up s 7 0 (s 48 0)) 7 1 ((px_up s 7 0 (s 48 0)) 48 1)) 48 2)) 48 3)) 48 4)) 7 5 ((px_up (px_up (px_up (px_up (px_up s 7 0 (s 48 0)) 7 1 ((px_up s 7 0 (s 48 0)) 48 1)) 7 2 ((px_up (px_up s 7 0 (s 48 0)) 7 1 ((px_up s 7 0 (s 48 0)) 48 1)) 48 2)) 7 3 ((px_up (px_up (px_up s 7 0 (s 48 0)) 7 1 ((px_up s 7 0 (s 48 0)) 48 1)) 7 2 ((px_up (px_up s 7 0 (s 48 0)) 7 1 ((px_up s 7 0 (s 48 0)) 48 1)) 48 2)) 48 3)) 7 4 ((px_up (px_up (px_up (px_up s 7 0 (s 48 0)) 7 1 ((px_up s 7 0 (s 48 0)) 48 1)) 7 2 ((px_up (px_up s 7 0 (s 48 0)) 7 1 ((px_up s 7 0 (s 48 0)) 48 1)) 48 2)) 7 3 ((px_up (px_up (px_up s 7 0 (s 48 0)) 7 1 ((px_up s 7 0 (s 48 0)) 48 1)) 7 2 ((px_up (px_up s 7 0 (s 48 0)) 7 1 ((px_up s 7 0 (s 48 0)) 48 1)) 48 2)) 48 3)) 48 4)) 48 5)) 48 6), .inr (.inr 7)]) (h1 := (px_G1, px_up (px_up (px_up (px_up (px_up (px_up s 7 0 (s 48 0)) 7 1 ((px_up s 7 0 (s 48 0)) 48 1)) 7 2 ((px_up (px_up s 7 0 (s 48 0)) 7 1 ((px_up s 7 0 (s 48 0)) 48 1)) 48 2)) 7 3 ((px_up (px_up (px_up s 7 0 (s 48 0)) 7 1 ((px_up s 7 0 (s 48 0)) 48 1)) 7 2 ((px_up (px_up s 7 0 (s 48 0)) 7 1 ((px_up s 7 0 (s 48 0)) 48 1)) 48 2)) 48 3)) 7 4 ((px_up (px_up (px_up (px_up s 7 0 (s 48 0)) 7 1 ((px_up s 7 0 (s 48 0)) 48 1)) 7 2 ((px_up (px_up s 7 0 (s 48 0)) 7 1 ((px_up s 7 0 (s 48 0)) 48 1)) 48 2)) 7 3 ((px_up (px_up (px_up s 7 0 (s 48 0)) 7 1 ((px_up s 7 0 (s 48 0)) 48 1)) 7 2 ((px_up (px_up s 7 0 (s 48 0)) 7 1 ((px_up s 7 0 (s 48 0)) 48 1)) 48 2)) 48 3)) 48 4)) 7 5 ((px_up (px_up (px_up (px_up (px_up s 7 0 (s 48 0)) 7 1 ((px_up s 7 0 (s 48 0)) 48 1)) 7 2 ((px_up (px_up s 7 0 (s 48 0)) 7 1 ((px_up s 7 0 (s 48 0)) 48 1)) 48 2)) 7 3 ((px_up (px_up (px_up s 7 0 (s 48 0)) 7 1 ((px_up s 7 0 (s 48 0)) 48 1)) 7 2 ((px_up (px_up s 7 0 (s 48 0)) 7 1 ((px_up s 7 0 (s 48 0)) 48 1)) 48 2)) 48 3)) 7 4 ((px_up (px_up (px_up (px_up s 7 0 (s 48 0)) 7 1 ((px_up s 7 0 (s 48 0)) 48 1)) 7 2 ((px_up (px_up s 7 0 (s 48 0)) 7 1 ((px_up s 7 0 (s 48 0)) 48 1)) 48 2)) 7 3 ((px_up (px_up (px_up s 7 0 (s 48 0)) 7 1 ((px_up s 7 0 (s 48 0)) 48 1)) 7 2 ((px_up (px_up s 7 0 (s 48 0)) 7 1 ((px_up s 7 0 (s 48 0)) 48 1)) 48 2)) 48 3)) 48 4)) 48 5))) rfl ?_
  by_cases hc1 : ((px_up (px_up (px_up (px_up (px_up (px_up s 7 0 (s 48 0)) 7 1 ((px_up s 7 0 (s 48 0)) 48 1)) 7 2 ((px_up (px_up s 7 0 (s 48 0)) 7 1 ((px_up s 7 0 (s 48 0)) 48 1)) 48 2)) 7 3 ((px_up (px_up (px_up s 7 0 (s 48 0)) 7 1 ((px_up s 7 0 (s 48 0)) 48 1)) 7 2 ((px_up (px_up s 7 0 (s 48 0)) 7 1 ((px_up s 7 0 (s 48 0)) 48 1)) 48 2)) 48 3)) 7 4 ((px_up (px_up (px_up (px_up s 7 0 (s 48 0)) 7 1 ((px_up s 7 0 (s 48 0)) 48 1)) 7 2 ((px_up (px_up s 7 0 (s 48 0)) 7 1 ((px_up s 7 0 (s 48 0)) 48 1)) 48 2)) 7 3 ((px_up (px_up (px_up s 7 0 (s 48 0)) 7 1 ((px_up s 7 0 (s 48 0)) 48 1)) 7 2 ((px_up (px_up s 7 0 (s 48 0)) 7 1 ((px_up s 7 0 (s 48 0)) 48 1)) 48 2)) 48 3)) 48 4)) 7 5 ((px_up (px_up (px_up (px_up (px_up s 7 0 (s 48 0)) 7 1 ((px_up s 7 0 (s 48 0)) 48 1)) 7 2 ((px_up (px_up s 7 0 (s 48 0)) 7 1 ((px_up s 7 0 (s 48 0)) 48 1)) 48 2)) 7 3 ((px_up (px_up (px_up s 7 0 (s 48 0)) 7 1 ((px_up s 7 0 (s 48 0)) 48 1)) 7 2 ((px_up (px_up s 7 0 (s 48 0)) 7 1 ((px_up s 7 0 (s 48 0)) 48 1)) 48 2)) 48 3)) 7 4 ((px_up (px_up (px_up (px_up s 7 0 (s 48 0)) 7 1 ((px_up s 7 0 (s 48 0)) 48 1)) 7 2 ((px_up (px_up s 7 0 (s 48 0)) 7 1 ((px_up s 7 0 (s 48 0)) 48 1)) 48 2)) 7 3 ((px_up (px_up (px_up s 7 0 (s 48 0)) 7 1 ((px_up s 7 0 (s 48 0)) 48 1)) 7 2 ((px_up (px_up s 7 0 (s 48 0)) 7 1 ((px_up s 7 0 (s 48 0)) 48 1)) 48 2)) 48 3)) 48 4)) 48 5)) 48 6) = 0 ∨ ((px_up (px_up (px_up (px_up (px_up (px_up s 7 0 (s 48 0)) 7 1 ((px_up s 7 0 (s 48 0)) 48 1)) 7 2 ((px_up (px_up s 7 0 (s 48 0)) 7 1 ((px_up s 7 0 (s 48 0)) 48 1)) 48 2)) 7 3 ((px_up (px_up (px_up s 7 0 (s 48 0)) 7 1 ((px_up s 7 0 (s 48 0)) 48 1)) 7 2 ((px_up (px_up s 7 0 (s 48 0)) 7 1 ((px_up s 7 0 (s 48 0)) 48 1)) 48 2)) 48 3)) 7 4 ((px_up (px_up (px_up (px_up s 7 0 (s 48 0)) 7 1 ((px_up s 7 0 (s 48 0)) 48 1)) 7 2 ((px_up (px_up s 7 0 (s 48 0)) 7 1 ((px_up s 7 0 (s 48 0)) 48 1)) 48 2)) 7 3 ((px_up (px_up (px_up s 7 0 (s 48 0)) 7 1 ((px_up s 7 0 (s 48 0)) 48 1)) 7 2 ((px_up (px_up s 7 0 (s 48 0)) 7 1 ((px_up s 7 0 (s 48 0)) 48 1)) 48 2)) 48 3)) 48 4)) 7 5 ((px_up (px_up (px_up (px_up (px_up s 7 0 (s 48 0)) 7 1 ((px_up s 7 0 (s 48 0)) 48 1)) 7 2 ((px_up (px_up s 7 0 (s 48 0)) 7 1 ((px_up s 7 0 (s 48 0)) 48 1)) 48 2)) 7 3 ((px_up (px_up (px_up s 7 0 (s 48 0)) 7 1 ((px_up s 7 0 (s 48 0)) 48 1)) 7 2 ((px_up (px_up s 7 0 (s 48 0)) 7 1 ((px_up s 7 0 (s 48 0)) 48 1)) 48 2)) 48 3)) 7 4 ((px_up (px_up (px_up (px_up s 7 0 (s 48 0)) 7 1 ((px_up s 7 0 (s 48 0)) 48 1)) 7 2 ((px_up (px_up s 7 0 (s 48 0)) 7 1 ((px_up s 7 0 (s 48 0)) 48 1)) 48 2)) 7 3 ((px_up (px_up (px_up s 7 0 (s 48 0)) 7 1 ((px_up s 7 0 (s 48 0)) 48 1)) 7 2 ((px_up (px_up s 7 0 (s 48 0)) 7 1 ((px_up s 7 0 (s 48 0)) 48 1)) 48 2)) 48 3)) 48 4)) 48 5)) 48 6) = 1
  case neg => rw [if_neg hc1] at h; cases h
  rw [if_pos hc1] at h
  refine px_D_putz (k := 2) rfl rfl rfl rfl hc1 ?_
  refine px_D_st 36 (ip1 := 64) (ls1 := [(0, .inr (.inr 7)), (1, .inr (.inr 48))]) (st1 := []) (h1 := (px_G1, px_cp (px_cp (px_cp (px_cp (px_up (px_up (px_up (px_up (px_up (px_up (px_up (px_up s 7 0 (s 48 0)) 7 1 ((px_up s 7 0 (s 48 0)) 48 1)) 7 2 ((px_up (px_up s 7 0 (s 48 0)) 7 1 ((px_up s 7 0 (s 48 0)) 48 1)) 48 2)) 7 3 ((px_up (px_up (px_up s 7 0 (s 48 0)) 7 1 ((px_up s 7 0 (s 48 0)) 48 1)) 7 2 ((px_up (px_up s 7 0 (s 48 0)) 7 1 ((px_up s 7 0 (s 48 0)) 48 1)) 48 2)) 48 3)) 7 4 ((px_up (px_up (px_up (px_up s 7 0 (s 48 0)) 7 1 ((px_up s 7 0 (s 48 0)) 48 1)) 7 2 ((px_up (px_up s 7 0 (s 48 0)) 7 1 ((px_up s 7 0 (s 48 0)) 48 1)) 48 2)) 7 3 ((px_up (px_up (px_up s 7 0 (s 48 0)) 7 1 ((px_up s 7 0 (s 48 0)) 48 1)) 7 2 ((px_up (px_up s 7 0 (s 48 0)) 7 1 ((px_up s 7 0 (s 48 0)) 48 1)) 48 2)) 48 3)) 48 4)) 7 5 ((px_up (px_up (px_up (px_up (px_up s 7 0 (s 48 0)) 7 1 ((px_up s 7 0 (s 48 0)) 48 1)) 7 2 ((px_up (px_up s 7 0 (s 48 0)) 7 1 ((px_up s 7 0 (s 48 0)) 48 1)) 48 2)) 7 3 ((px_up (px_up (px_up s 7 0 (s 48 0)) 7 1 ((px_up s 7 0 (s 48 0)) 48 1)) 7 2 ((px_up (px_up s 7 0 (s 48 0)) 7 1 ((px_up s 7 0 (s 48 0)) 48 1)) 48 2)) 48 3)) 7 4 ((px_up (px_up (px_up (px_up s 7 0 (s 48 0)) 7 1 ((px_up s 7 0 (s 48 0)) 48 1)) 7 2 ((px_up (px_up s 7 0 (s 48 0)) 7 1 ((px_up s 7 0 (s 48 0)) 48 1)) 48 2)) 7 3 ((px_up (px_up (px_up s 7 0 (s 48 0)) 7 1 ((px_up s 7 0 (s 48 0)) 48 1)) 7 2 ((px_up (px_up s 7 0 (s 48 0)) 7 1 ((px_up s 7 0 (s 48 0)) 48 1)) 48 2)) 48 3)) 48 4)) 48 5)) 7 6 ((px_up (px_up (px_up (px_up (px_up (px_up s 7 0 (s 48 0)) 7 1 ((px_up s 7 0 (s 48 0)) 48 1)) 7 2 ((px_up (px_up s 7 0 (s 48 0)) 7 1 ((px_up s 7 0 (s 48 0)) 48 1)) 48 2)) 7 3 ((px_up (px_up (px_up s 7 0 (s 48 0)) 7 1 ((px_up s 7 0 (s 48 0)) 48 1)) 7 2 ((px_up (px_up s 7 0 (s 48 0)) 7 1 ((px_up s 7 0 (s 48 0)) 48 1)) 48 2)) 48 3)) 7 4 ((px_up (px_up (px_up (px_up s 7 0 (s 48 0)) 7 1 ((px_up s 7 0 (s 48 0)) 48 1)) 7 2 ((px_up (px_up s 7 0 (s 48 0)) 7 1 ((px_up s 7 0 (s 48 0)) 48 1)) 48 2)) 7 3 ((px_up (px_up (px_up s 7 0 (s 48 0)) 7 1 ((px_up s 7 0 (s 48 0)) 48 1)) 7 2 ((px_up (px_up s 7 0 (s 48 0)) 7 1 ((px_up s 7 0 (s 48 0)) 48 1)) 48 2)) 48 3)) 48 4)) 7 5 ((px_up (px_up (px_up (px_up (px_up s 7 0 (s 48 0)) 7 1 ((px_up s 7 0 (s 48 0)) 48 1)) 7 2 ((px_up (px_up s 7 0 (s 48 0)) 7 1 ((px_up s 7 0 (s 48 0)) 48 1)) 48 2)) 7 3 ((px_up (px_up (px_up s 7 0 (s 48 0)) 7 1 ((px_up s 7 0 (s 48 0)) 48 1)) 7 2 ((px_up (px_up s 7 0 (s 48 0)) 7 1 ((px_up s 7 0 (s 48 0)) 48 1)) 48 2)) 48 3)) 7 4 ((px_up (px_up (px_up (px_up s 7 0 (s 48 0)) 7 1 ((px_up s 7 0 (s 48 0)) 48 1)) 7 2 ((px_up (px_up s 7 0 (s 48 0)) 7 1 ((px_up s 7 0 (s 48 0)) 48 1)) 48 2)) 7 3 ((px_up (px_up (px_up s 7 0 (s 48 0)) 7 1 ((px_up s 7 0 (s 48 0)) 48 1)) 7 2 ((px_up (px_up s 7 0 (s 48 0)) 7 1 ((px_up s 7 0 (s 48 0)) 48 1)) 48 2)) 48 3)) 48 4)) 48 5)) 48 6)) 7 7 ((px_up (px_up (px_up (px_up (px_up (px_up (px_up s 7 0 (s 48 0)) 7 1 ((px_up s 7 0 (s 48 0)) 48 1)) 7 2 ((px_up (px_up s 7 0 (s 48 0)) 7 1 ((px_up s 7 0 (s 48 0)) 48 1)) 48 2)) 7 3 ((px_up (px_up (px_up s 7 0 (s 48 0)) 7 1 ((px_up s 7 0 (s 48 0)) 48 1)) 7 2 ((px_up (px_up s 7 0 (s 48 0)) 7 1 ((px_up s 7 0 (s 48 0)) 48 1)) 48 2)) 48 3)) 7 4 ((px_up (px_up (px_up (px_up s 7 0 (s 48 0)) 7 1 ((px_up s 7 0 (s 48 0)) 48 1)) 7 2 ((px_up (px_up s 7 0 (s 48 0)) 7 1 ((px_up s 7 0 (s 48 0)) 48 1)) 48 2)) 7 3 ((px_up (px_up (px_up s 7 0 (s 48 0)) 7 1 ((px_up s 7 0 (s 48 0)) 48 1)) 7 2 ((px_up (px_up s 7 0 (s 48 0)) 7 1 ((px_up s 7 0 (s 48 0)) 48 1)) 48 2)) 48 3)) 48 4)) 7 5 ((px_up (px_up (px_up (px_up (px_up s 7 0 (s 48 0)) 7 1 ((px_up s 7 0 (s 48 0)) 48 1)) 7 2 ((px_up (px_up s 7 0 (s 48 0)) 7 1 ((px_up s 7 0 (s 48 0)) 48 1)) 48 2)) 7 3 ((px_up (px_up (px_up s 7 0 (s 48 0)) 7 1 ((px_up s 7 0 (s 48 0)) 48 1)) 7 2 ((px_up (px_up s 7 0 (s 48 0)) 7 1 ((px_up s 7 0 (s 48 0)) 48 1)) 48 2)) 48 3)) 7 4 ((px_up (px_up (px_up (px_up s 7 0 (s 48 0)) 7 1 ((px_up s 7 0 (s 48 0)) 48 1)) 7 2 ((px_up (px_up s 7 0 (s 48 0)) 7 1 ((px_up s 7 0 (s 48 0)) 48 1)) 48 2)) 7 3 ((px_up (px_up (px_up s 7 0 (s 48 0)) 7 1 ((px_up s 7 0 (s 48 0)) 48 1)) 7 2 ((px_up (px_up s 7 0 (s 48 0)) 7 1 ((px_up s 7 0 (s 48 0)) 48 1)) 48 2)) 48 3)) 48 4)) 48 5)) 7 6 ((px_up (px_up (px_up (px_up (px_up (px_up s 7 0 (s 48 0)) 7 1 ((px_up s 7 0 (s 48 0)) 48 1)) 7 2 ((px_up (px_up s 7 0 (s 48 0)) 7 1 ((px_up s 7 0 (s 48 0)) 48 1)) 48 2)) 7 3 ((px_up (px_up (px_up s 7 0 (s 48 0)) 7 1 ((px_up s 7 0 (s 48 0)) 48 1)) 7 2 ((px_up (px_up s 7 0 (s 48 0)) 7 1 ((px_up s 7 0 (s 48 0)) 48 1)) 48 2)) 48 3)) 7 4 ((px_up (px_up (px_up (px_up s 7 0 (s 48 0)) 7 1 ((px_up s 7 0 (s 48 0)) 48 1)) 7 2 ((px_up (px_up s 7 0 (s 48 0)) 7 1 ((px_up s 7 0 (s 48 0)) 48 1)) 48 2)) 7 3 ((px_up (px_up (px_up s 7 0 (s 48 0)) 7 1 ((px_up s 7 0 (s 48 0)) 48 1)) 7 2 ((px_up (px_up s 7 0 (s 48 0)) 7 1 ((px_up s 7 0 (s 48 0)) 48 1)) 48 2)) 48 3)) 48 4)) 7 5 ((px_up (px_up (px_up (px_up (px_up s 7 0 (s 48 0)) 7 1 ((px_up s 7 0 (s 48 0)) 48 1)) 7 2 ((px_up (px_up s 7 0 (s 48 0)) 7 1 ((px_up s 7 0 (s 48 0)) 48 1)) 48 2)) 7 3 ((px_up (px_up (px_up s 7 0 (s 48 0)) 7 1 ((px_up s 7 0 (s 48 0)) 48 1)) 7 2 ((px_up (px_up s 7 0 (s 48 0)) 7 1 ((px_up s 7 0 (s 48 0)) 48 1)) 48 2)) 48 3)) 7 4 ((px_up (px_up (px_up (px_up s 7 0 (s 48 0)) 7 1 ((px_up s 7 0 (s 48 0)) 48 1)) 7 2 ((px_up (px_up s 7 0 (s 48 0)) 7 1 ((px_up s 7 0 (s 48 0)) 48 1)) 48 2)) 7 3 ((px_up (px_up (px_up s 7 0 (s 48 0)) 7 1 ((px_up s 7 0 (s 48 0)) 48 1)) 7 2 ((px_up (px_up s 7 0 (s 48 0)) 7 1 ((px_up s 7 0 (s 48 0)) 48 1)) 48 2)) 48 3)) 48 4)) 48 5)) 48 6)) 48 7)) 49 8 0 0 8) 50 9 0 0 8) 51 10 0 0 8) 52 11 0 0 8)) rfl ?_
  cases h
  exact px_D_vret rfl ⟨rfl, rfl⟩

def f_World_tellAfter_3 (s : px_Z) (x2 : Int) : Option (px_Z) := some (px_up (px_cp s 54 13 0 0 8) 6 7 x2)
set_option maxHeartbeats 4000000 in
set_option maxRecDepth 100000 in
theorem c_World_tellAfter_3 {sc : List Int} {d : Nat} {s : px_Z} {x2 : Int} {out : px_Z} (h : f_World_tellAfter_3 s x2 = some out) : px_D sc (d + 0) 83 0 [(0, .inr (.inr 6)), (1, .inr (.inr 54)), (2, .inl (x2))] [] (px_G1, s) (px_Qv out) := by
  unfold f_World_tellAfter_3 at h
  refine px_D_st 10 (ip1 := 10) (ls1 := [(0, .inr (.inr 6)), (1, .inr (.inr 54)), (2, .inl (x2))]) (st1 := []) (h1 := (px_G1, px_up (px_cp s 54 13 0 0 8) 6 7 x2)) rfl ?_
  cases h
  exact px_D_vret rfl ⟨rfl, rfl⟩

def f_Law_become_6 (s : px_Z) : Option (px_Z) := some (px_cp (px_cp (px_cp (px_cp (px_cp (px_up (px_up s 21 0 (s 62 0)) 21 1 ((px_up s 21 0 (s 62 0)) 62 1)) 63 22 0 0 16) 64 23 0 0 16) 65 24 0 0 16) 66 25 0 0 16) 67 26 0 0 400)
set_option maxHeartbeats 4000000 in
set_option maxRecDepth 100000 in
theorem c_Law_become_6 {sc : List Int} {d : Nat} {s : px_Z} {out : px_Z} (h : f_Law_become_6 s  = some out) : px_D sc (d + 0) 13 0 [(0, .inr (.inr 21)), (1, .inr (.inr 62))] [] (px_G1, s) (px_Qv out) := by
  unfold f_Law_become_6 at h
  refine px_D_st 48 (ip1 := 48) (ls1 := [(0, .inr (.inr 21)), (1, .inr (.inr 62))]) (st1 := []) (h1 := (px_G1, px_cp (px_cp (px_cp (px_cp (px_cp (px_up (px_up s 21 0 (s 62 0)) 21 1 ((px_up s 21 0 (s 62 0)) 62 1)) 63 22 0 0 16) 64 23 0 0 16) 65 24 0 0 16) 66 25 0 0 16) 67 26 0 0 400)) rfl ?_
  cases h
  exact px_D_vret rfl ⟨rfl, rfl⟩

def f_Hills_become_3 (s : px_Z) : Option (px_Z) := some (px_cp (px_cp (px_cp (px_cp (px_cp (px_up s 28 0 (s 69 0)) 70 29 0 0 24) 71 30 0 0 24) 72 31 0 0 24) 73 32 0 0 24) 74 33 0 0 24)
set_option maxHeartbeats 4000000 in
set_option maxRecDepth 100000 in
theorem c_Hills_become_3 {sc : List Int} {d : Nat} {s : px_Z} {out : px_Z} (h : f_Hills_become_3 s  = some out) : px_D sc (d + 0) 4 0 [(0, .inr (.inr 28)), (1, .inr (.inr 69))] [] (px_G1, s) (px_Qv out) := by
  unfold f_Hills_become_3 at h
  refine px_D_st 44 (ip1 := 44) (ls1 := [(0, .inr (.inr 28)), (1, .inr (.inr 69))]) (st1 := []) (h1 := (px_G1, px_cp (px_cp (px_cp (px_cp (px_cp (px_up s 28 0 (s 69 0)) 70 29 0 0 24) 71 30 0 0 24) 72 31 0 0 24) 73 32 0 0 24) 74 33 0 0 24)) rfl ?_
  cases h
  exact px_D_vret rfl ⟨rfl, rfl⟩

def f_World_become_2 (s : px_Z) : Option (px_Z) := (f_Fate_become_14 s ).bind (fun q1 => (f_World_tellAfter_3 (px_cp (px_up (px_up (px_up (px_up q1 6 1 (q1 47 1)) 6 2 ((px_up q1 6 1 (q1 47 1)) 47 2)) 6 3 ((px_up (px_up q1 6 1 (q1 47 1)) 6 2 ((px_up q1 6 1 (q1 47 1)) 47 2)) 47 3)) 6 4 ((px_up (px_up (px_up q1 6 1 (q1 47 1)) 6 2 ((px_up q1 6 1 (q1 47 1)) 47 2)) 6 3 ((px_up (px_up q1 6 1 (q1 47 1)) 6 2 ((px_up q1 6 1 (q1 47 1)) 47 2)) 47 3)) 47 4)) 53 12 0 0 8) ((px_cp (px_up (px_up (px_up (px_up q1 6 1 (q1 47 1)) 6 2 ((px_up q1 6 1 (q1 47 1)) 47 2)) 6 3 ((px_up (px_up q1 6 1 (q1 47 1)) 6 2 ((px_up q1 6 1 (q1 47 1)) 47 2)) 47 3)) 6 4 ((px_up (px_up (px_up q1 6 1 (q1 47 1)) 6 2 ((px_up q1 6 1 (q1 47 1)) 47 2)) 6 3 ((px_up (px_up q1 6 1 (q1 47 1)) 6 2 ((px_up q1 6 1 (q1 47 1)) 47 2)) 47 3)) 47 4)) 53 12 0 0 8) 47 7)).bind (fun q2 => (f_Law_become_5 q2 ).bind (fun q3 => (f_Law_become_6 q3 ).bind (fun q4 => (f_Hills_become_3 q4 ).bind (fun q5 => (f_Plan_become_3 q5 ).bind (fun q6 => (f_Told_become_2 q6 ).bind (fun q7 => some (px_cp q7 86 45 0 0 600))))))))
set_option maxHeartbeats 4000000 in
set_option maxRecDepth 100000 in
theorem c_World_become_2 {sc : List Int} {d : Nat} {s : px_Z} {out : px_Z} (h : f_World_become_2 s  = some out) : px_D sc (d + 1) 81 0 [(0, .inr (.inr 6)), (1, .inr (.inr 47))] [] (px_G1, s) (px_Qv out) := by
  unfold f_World_become_2 at h
  refine px_D_st 4 (ip1 := 4) (ls1 := [(0, .inr (.inr 6)), (1, .inr (.inr 47))]) (st1 := [.inr (.inr 48), .inr (.inr 7)]) (h1 := (px_G1, s)) rfl ?_
  refine px_D_call (as := [.inr (.inr 7), .inr (.inr 48)]) (rest := []) rfl rfl rfl rfl ?_
  obtain ⟨q1, hq1, h⟩ := Option.bind_eq_some_iff.mp h
  refine px_D_mono (c_Fate_become_14 (d := d + 0) hq1) ?_
  rintro _ _ ⟨rfl, rfl⟩
  show px_D sc (d + 1) 81 5 [(0, .inr (.inr 6)), (1, .inr (.inr 47))] [] (px_G1, q1) _
  refine px_D_st 29 (ip1 := 34) (ls1 := [(0, .inr (.inr 6)), (1, .inr (.inr 47))]) (st1 := [.inl ((px_cp (px_up (px_up (px_up (px_up q1 6 1 (q1 47 1)) 6 2 ((px_up q1 6 1 (q1 47 1)) 47 2)) 6 3 ((px_up (px_up q1 6 1 (q1 47 1)) 6 2 ((px_up q1 6 1 (q1 47 1)) 47 2)) 47 3)) 6 4 ((px_up (px_up (px_up q1 6 1 (q1 47 1)) 6 2 ((px_up q1 6 1 (q1 47 1)) 47 2)) 6 3 ((px_up (px_up q1 6 1 (q1 47 1)) 6 2 ((px_up q1 6 1 (q1 47 1)) 47 2)) 47 3)) 47 4)) 53 12 0 0 8) 47 7), .inr (.inr 54), .inr (.inr 6)]) (h1 := (px_G1, px_cp (px_up (px_up (px_up (px_up q1 6 1 (q1 47 1)) 6 2 ((px_up q1 6 1 (q1 47 1)) 47 2)) 6 3 ((px_up (px_up q1 6 1 (q1 47 1)) 6 2 ((px_up q1 6 1 (q1 47 1)) 47 2)) 47 3)) 6 4 ((px_up (px_up (px_up q1 6 1 (q1 47 1)) 6 2 ((px_up q1 6 1 (q1 47 1)) 47 2)) 6 3 ((px_up (px_up q1 6 1 (q1 47 1)) 6 2 ((px_up q1 6 1 (q1 47 1)) 47 2)) 47 3)) 47 4)) 53 12 0 0 8)) rfl ?_
  refine px_D_call (as := [.inr (.inr 6), .inr (.inr 54), .inl ((px_cp (px_up (px_up (px_up (px_up q1 6 1 (q1 47 1)) 6 2 ((px_up q1 6 1 (q1 47 1)) 47 2)) 6 3 ((px_up (px_up q1 6 1 (q1 47 1)) 6 2 ((px_up q1 6 1 (q1 47 1)) 47 2)) 47 3)) 6 4 ((px_up (px_up (px_up q1 6 1 (q1 47 1)) 6 2 ((px_up q1 6 1 (q1 47 1)) 47 2)) 6 3 ((px_up (px_up q1 6 1 (q1 47 1)) 6 2 ((px_up q1 6 1 (q1 47 1)) 47 2)) 47 3)) 47 4)) 53 12 0 0 8) 47 7)]) (rest := []) rfl rfl rfl rfl ?_
  obtain ⟨q2, hq2, h⟩ := Option.bind_eq_some_iff.mp h
  refine px_D_mono (c_World_tellAfter_3 (d := d + 0) hq2) ?_
  rintro _ _ ⟨rfl, rfl⟩
  show px_D sc (d + 1) 81 35 [(0, .inr (.inr 6)), (1, .inr (.inr 47))] [] (px_G1, q2) _
  refine px_D_st 4 (ip1 := 39) (ls1 := [(0, .inr (.inr 6)), (1, .inr (.inr 47))]) (st1 := [.inr (.inr 55), .inr (.inr 14)]) (h1 := (px_G1, q2)) rfl ?_
  refine px_D_call (as := [.inr (.inr 14), .inr (.inr 55)]) (rest := []) rfl rfl rfl rfl ?_
  obtain ⟨q3, hq3, h⟩ := Option.bind_eq_some_iff.mp h
  refine px_D_mono (c_Law_become_5 (d := d + 0) hq3) ?_
  rintro _ _ ⟨rfl, rfl⟩
  show px_D sc (d + 1) 81 40 [(0, .inr (.inr 6)), (1, .inr (.inr 47))] [] (px_G1, q3) _
  refine px_D_st 4 (ip1 := 44) (ls1 := [(0, .inr (.inr 6)), (1, .inr (.inr 47))]) (st1 := [.inr (.inr 62), .inr (.inr 21)]) (h1 := (px_G1, q3)) rfl ?_
  refine px_D_call (as := [.inr (.inr 21), .inr (.inr 62)]) (rest := []) rfl rfl rfl rfl ?_
  obtain ⟨q4, hq4, h⟩ := Option.bind_eq_some_iff.mp h
  refine px_D_mono (c_Law_become_6 (d := d + 0) hq4) ?_
  rintro _ _ ⟨rfl, rfl⟩
  show px_D sc (d + 1) 81 45 [(0, .inr (.inr 6)), (1, .inr (.inr 47))] [] (px_G1, q4) _
  refine px_D_st 4 (ip1 := 49) (ls1 := [(0, .inr (.inr 6)), (1, .inr (.inr 47))]) (st1 := [.inr (.inr 69), .inr (.inr 28)]) (h1 := (px_G1, q4)) rfl ?_
  refine px_D_call (as := [.inr (.inr 28), .inr (.inr 69)]) (rest := []) rfl rfl rfl rfl ?_
  obtain ⟨q5, hq5, h⟩ := Option.bind_eq_some_iff.mp h
  refine px_D_mono (c_Hills_become_3 (d := d + 0) hq5) ?_
  rintro _ _ ⟨rfl, rfl⟩
  show px_D sc (d + 1) 81 50 [(0, .inr (.inr 6)), (1, .inr (.inr 47))] [] (px_G1, q5) _
  refine px_D_st 4 (ip1 := 54) (ls1 := [(0, .inr (.inr 6)), (1, .inr (.inr 47))]) (st1 := [.inr (.inr 75), .inr (.inr 34)]) (h1 := (px_G1, q5)) rfl ?_
  refine px_D_call (as := [.inr (.inr 34), .inr (.inr 75)]) (rest := []) rfl rfl rfl rfl ?_
  obtain ⟨q6, hq6, h⟩ := Option.bind_eq_some_iff.mp h
  refine px_D_mono (c_Plan_become_3 (d := d + 0) hq6) ?_
  rintro _ _ ⟨rfl, rfl⟩
  show px_D sc (d + 1) 81 55 [(0, .inr (.inr 6)), (1, .inr (.inr 47))] [] (px_G1, q6) _
  refine px_D_st 4 (ip1 := 59) (ls1 := [(0, .inr (.inr 6)), (1, .inr (.inr 47))]) (st1 := [.inr (.inr 79), .inr (.inr 38)]) (h1 := (px_G1, q6)) rfl ?_
  refine px_D_call (as := [.inr (.inr 38), .inr (.inr 79)]) (rest := []) rfl rfl rfl rfl ?_
  obtain ⟨q7, hq7, h⟩ := Option.bind_eq_some_iff.mp h
  refine px_D_mono (c_Told_become_2 (d := d + 0) hq7) ?_
  rintro _ _ ⟨rfl, rfl⟩
  show px_D sc (d + 1) 81 60 [(0, .inr (.inr 6)), (1, .inr (.inr 47))] [] (px_G1, q7) _
  refine px_D_st 10 (ip1 := 70) (ls1 := [(0, .inr (.inr 6)), (1, .inr (.inr 47))]) (st1 := []) (h1 := (px_G1, px_cp q7 86 45 0 0 600)) rfl ?_
  cases h
  exact px_D_vret rfl ⟨rfl, rfl⟩

def f_R_image (s : px_Z) (x1 : Int) : Option (Int × px_Z) := if (x1) = (0) then (if (s 5 2) = (0) then some (0, s) else (f_World_become_2 s ).bind (fun q3 => (f_R_forgetDeeds q3 ).bind (fun q4 => some (1, q4)))) else (f_World_become s ).bind (fun q5 => some (1, px_up q5 5 2 1))
set_option maxHeartbeats 4000000 in
set_option maxRecDepth 100000 in
theorem c_R_image {sc : List Int} {d : Nat} {s : px_Z} {x1 : Int} {out : Int × px_Z} (h : f_R_image s x1 = some out) : px_D sc (d + 2) 139 0 [(0, .inr (.inr 5)), (1, .inl (x1))] [] (px_G1, s) (px_Qi out) := by
  unfold f_R_image at h
  refine px_D_st 1 (ip1 := 1) (ls1 := [(0, .inr (.inr 5)), (1, .inl (x1))]) (st1 := [.inl (x1)]) (h1 := (px_G1, s)) rfl ?_
  refine px_D_ifc rfl (fun hc => ?_) (fun hc => ?_)
  · have hc1 : (x1) = (0) := of_decide_eq_true hc
    rw [if_pos hc1] at h
    refine px_D_st 2 (ip1 := 14) (ls1 := [(0, .inr (.inr 5)), (1, .inl (x1))]) (st1 := [.inl (s 5 2)]) (h1 := (px_G1, s)) rfl ?_
    refine px_D_ifc rfl (fun hc => ?_) (fun hc => ?_)
    · have hc2 : ¬ ((s 5 2) = (0)) := of_decide_eq_true hc
      rw [if_neg hc2] at h
      refine px_D_st 4 (ip1 := 21) (ls1 := [(0, .inr (.inr 5)), (1, .inl (x1))]) (st1 := [.inr (.inr 47), .inr (.inr 6)]) (h1 := (px_G1, s)) rfl ?_
      refine px_D_call (as := [.inr (.inr 6), .inr (.inr 47)]) (rest := []) rfl rfl rfl rfl ?_
      obtain ⟨q3, hq3, h⟩ := Option.bind_eq_some_iff.mp h
      refine px_D_mono (c_World_become_2 (d := d + 0) hq3) ?_
      rintro _ _ ⟨rfl, rfl⟩
      show px_D sc (d + 2) 139 22 [(0, .inr (.inr 5)), (1, .inl (x1))] [] (px_G1, q3) _
      refine px_D_st 1 (ip1 := 23) (ls1 := [(0, .inr (.inr 5)), (1, .inl (x1))]) (st1 := [.inr (.inr 5)]) (h1 := (px_G1, q3)) rfl ?_
      refine px_D_call (as := [.inr (.inr 5)]) (rest := []) rfl rfl rfl rfl ?_
      obtain ⟨q4, hq4, h⟩ := Option.bind_eq_some_iff.mp h
      refine px_D_mono (c_R_forgetDeeds (d := d + 0) hq4) ?_
      rintro _ _ ⟨rfl, rfl⟩
      show px_D sc (d + 2) 139 24 [(0, .inr (.inr 5)), (1, .inl (x1))] [] (px_G1, q4) _
      refine px_D_st 1 (ip1 := 25) (ls1 := [(0, .inr (.inr 5)), (1, .inl (x1))]) (st1 := [.inl (1)]) (h1 := (px_G1, q4)) rfl ?_
      cases h
      exact px_D_iret rfl rfl ⟨rfl, rfl⟩
    · have hc2 : (s 5 2) = (0) := Decidable.of_not_not (of_decide_eq_false hc)
      rw [if_pos hc2] at h
      refine px_D_st 1 (ip1 := 16) (ls1 := [(0, .inr (.inr 5)), (1, .inl (x1))]) (st1 := [.inl (0)]) (h1 := (px_G1, s)) rfl ?_
      cases h
      exact px_D_iret rfl rfl ⟨rfl, rfl⟩
  · have hc1 : ¬ ((x1) = (0)) := of_decide_eq_false hc
    rw [if_neg hc1] at h
    refine px_D_st 4 (ip1 := 6) (ls1 := [(0, .inr (.inr 5)), (1, .inl (x1))]) (st1 := [.inr (.inr 6), .inr (.inr 47)]) (h1 := (px_G1, s)) rfl ?_
    refine px_D_call (as := [.inr (.inr 47), .inr (.inr 6)]) (rest := []) rfl rfl rfl rfl ?_
    obtain ⟨q5, hq5, h⟩ := Option.bind_eq_some_iff.mp h
    refine px_D_mono (c_World_become (d := d + 0) hq5) ?_
    rintro _ _ ⟨rfl, rfl⟩
    show px_D sc (d + 2) 139 7 [(0, .inr (.inr 5)), (1, .inl (x1))] [] (px_G1, q5) _
    refine px_D_st 4 (ip1 := 11) (ls1 := [(0, .inr (.inr 5)), (1, .inl (x1))]) (st1 := [.inl (1)]) (h1 := (px_G1, px_up q5 5 2 1)) rfl ?_
    cases h
    exact px_D_iret rfl rfl ⟨rfl, rfl⟩

def f_R_lookAtTold (s : px_Z) (x1 : Int) : Int := if (x1) = 9 then s 14 0 else (if (x1) = 10 then s 21 0 else (if (x1) = 11 then s 28 0 else (if (x1) = 12 then s 6 7 else (if (x1) = 13 then s 34 0 else (if (x1) = 14 then s 38 0 else (if (x1) = 15 then s 38 1 else (if (x1) = 16 then s 38 2 else (-1000))))))))
set_option maxHeartbeats 4000000 in
set_option maxRecDepth 100000 in
theorem c_R_lookAtTold {sc : List Int} {d : Nat} {s : px_Z} {x1 : Int} {out : Int} (h : f_R_lookAtTold s x1 = out) : px_D sc (d + 0) 141 0 [(0, .inr (.inr 5)), (1, .inl (x1))] [] (px_G1, s) (px_Qp s out) := by
  unfold f_R_lookAtTold at h
  refine px_D_st 1 (ip1 := 1) (ls1 := [(0, .inr (.inr 5)), (1, .inl (x1))]) (st1 := [.inl (x1)]) (h1 := (px_G1, s)) rfl ?_
  by_cases hc1 : (x1) = 9
  · rw [if_pos hc1] at h
    refine px_D_tsw (c := 9) rfl hc1 (by decide) rfl ?_
    refine px_D_st 4 (ip1 := 6) (ls1 := [(0, .inr (.inr 5)), (1, .inl (x1))]) (st1 := [.inl (s 14 0)]) (h1 := (px_G1, s)) rfl ?_
    subst h
    exact px_D_iret rfl rfl ⟨rfl, rfl⟩
  rw [if_neg hc1] at h
  by_cases hc2 : (x1) = 10
  · rw [if_pos hc2] at h
    refine px_D_tsw (c := 10) rfl hc2 (by decide) rfl ?_
    refine px_D_st 4 (ip1 := 11) (ls1 := [(0, .inr (.inr 5)), (1, .inl (x1))]) (st1 := [.inl (s 21 0)]) (h1 := (px_G1, s)) rfl ?_
    subst h
    exact px_D_iret rfl rfl ⟨rfl, rfl⟩
  rw [if_neg hc2] at h
  by_cases hc3 : (x1) = 11
  · rw [if_pos hc3] at h
    refine px_D_tsw (c := 11) rfl hc3 (by decide) rfl ?_
    refine px_D_st 4 (ip1 := 16) (ls1 := [(0, .inr (.inr 5)), (1, .inl (x1))]) (st1 := [.inl (s 28 0)]) (h1 := (px_G1, s)) rfl ?_
    subst h
    exact px_D_iret rfl rfl ⟨rfl, rfl⟩
  rw [if_neg hc3] at h
  by_cases hc4 : (x1) = 12
  · rw [if_pos hc4] at h
    refine px_D_tsw (c := 12) rfl hc4 (by decide) rfl ?_
    refine px_D_st 3 (ip1 := 20) (ls1 := [(0, .inr (.inr 5)), (1, .inl (x1))]) (st1 := [.inl (s 6 7)]) (h1 := (px_G1, s)) rfl ?_
    subst h
    exact px_D_iret rfl rfl ⟨rfl, rfl⟩
  rw [if_neg hc4] at h
  by_cases hc5 : (x1) = 13
  · rw [if_pos hc5] at h
    refine px_D_tsw (c := 13) rfl hc5 (by decide) rfl ?_
    refine px_D_st 4 (ip1 := 25) (ls1 := [(0, .inr (.inr 5)), (1, .inl (x1))]) (st1 := [.inl (s 34 0)]) (h1 := (px_G1, s)) rfl ?_
    subst h
    exact px_D_iret rfl rfl ⟨rfl, rfl⟩
  rw [if_neg hc5] at h
  by_cases hc6 : (x1) = 14
  · rw [if_pos hc6] at h
    refine px_D_tsw (c := 14) rfl hc6 (by decide) rfl ?_
    refine px_D_st 4 (ip1 := 30) (ls1 := [(0, .inr (.inr 5)), (1, .inl (x1))]) (st1 := [.inl (s 38 0)]) (h1 := (px_G1, s)) rfl ?_
    subst h
    exact px_D_iret rfl rfl ⟨rfl, rfl⟩
  rw [if_neg hc6] at h
  by_cases hc7 : (x1) = 15
  · rw [if_pos hc7] at h
    refine px_D_tsw (c := 15) rfl hc7 (by decide) rfl ?_
    refine px_D_st 4 (ip1 := 35) (ls1 := [(0, .inr (.inr 5)), (1, .inl (x1))]) (st1 := [.inl (s 38 1)]) (h1 := (px_G1, s)) rfl ?_
    subst h
    exact px_D_iret rfl rfl ⟨rfl, rfl⟩
  rw [if_neg hc7] at h
  by_cases hc8 : (x1) = 16
  · rw [if_pos hc8] at h
    refine px_D_tsw (c := 16) rfl hc8 (by decide) rfl ?_
    refine px_D_st 4 (ip1 := 40) (ls1 := [(0, .inr (.inr 5)), (1, .inl (x1))]) (st1 := [.inl (s 38 2)]) (h1 := (px_G1, s)) rfl ?_
    subst h
    exact px_D_iret rfl rfl ⟨rfl, rfl⟩
  rw [if_neg hc8] at h
  refine px_D_tswD rfl (by omega) ?_
  refine px_D_st 1 (ip1 := 42) (ls1 := [(0, .inr (.inr 5)), (1, .inl (x1))]) (st1 := [.inl ((-1000))]) (h1 := (px_G1, s)) rfl ?_
  subst h
  exact px_D_iret rfl rfl ⟨rfl, rfl⟩

def f_R_look (s : px_Z) (x1 : Int) : Option (Int) := if (x1) = 0 then some (s 6 1) else (if (x1) = 1 then (f_World_homeSet s ).bind (fun q3 => some q3) else (if (x1) = 2 then some (s 7 4) else (if (x1) = 3 then some (s 7 1) else (if (x1) = 4 then some (s 7 2) else (if (x1) = 5 then some (s 7 3) else (if (x1) = 6 then some (s 7 5) else (if (x1) = 7 then some (s 7 7) else (if (x1) = 8 then some (s 7 0) else (if (x1) = 17 then some (s 88 2) else (if (x1) = 20 then some (s 6 2) else (if (x1) = 21 then some (s 6 3) else (if (x1) = 22 then some (s 6 4) else some (f_R_lookAtTold s x1)))))))))))))
set_option maxHeartbeats 4000000 in
set_option maxRecDepth 100000 in
theorem c_R_look {sc : List Int} {d : Nat} {s : px_Z} {x1 : Int} {out : Int} (h : f_R_look s x1 = some out) : px_D sc (d + 1) 140 0 [(0, .inr (.inr 5)), (1, .inl (x1))] [] (px_G1, s) (px_Qp s out) := by
  unfold f_R_look at h
  refine px_D_st 1 (ip1 := 1) (ls1 := [(0, .inr (.inr 5)), (1, .inl (x1))]) (st1 := [.inl (x1)]) (h1 := (px_G1, s)) rfl ?_
  by_cases hc1 : (x1) = 0
  · rw [if_pos hc1] at h
    refine px_D_tsw (c := 0) rfl hc1 (by decide) rfl ?_
    refine px_D_st 3 (ip1 := 5) (ls1 := [(0, .inr (.inr 5)), (1, .inl (x1))]) (st1 := [.inl (s 6 1)]) (h1 := (px_G1, s)) rfl ?_
    cases h
    exact px_D_iret rfl rfl ⟨rfl, rfl⟩
  rw [if_neg hc1] at h
  by_cases hc2 : (x1) = 1
  · rw [if_pos hc2] at h
    refine px_D_tsw (c := 1) rfl hc2 (by decide) rfl ?_
    refine px_D_st 2 (ip1 := 8) (ls1 := [(0, .inr (.inr 5)), (1, .inl (x1))]) (st1 := [.inr (.inr 6)]) (h1 := (px_G1, s)) rfl ?_
    refine px_D_call (as := [.inr (.inr 6)]) (rest := []) rfl rfl rfl rfl ?_
    obtain ⟨q3, hq3, h⟩ := Option.bind_eq_some_iff.mp h
    refine px_D_mono (c_World_homeSet (d := d + 0) hq3) ?_
    rintro _ _ ⟨rfl, rfl⟩
    show px_D sc (d + 1) 140 9 [(0, .inr (.inr 5)), (1, .inl (x1))] [.inl (q3)] (px_G1, s) _
    cases h
    exact px_D_iret rfl rfl ⟨rfl, rfl⟩
  rw [if_neg hc2] at h
  by_cases hc4 : (x1) = 2
  · rw [if_pos hc4] at h
    refine px_D_tsw (c := 2) rfl hc4 (by decide) rfl ?_
    refine px_D_st 4 (ip1 := 14) (ls1 := [(0, .inr (.inr 5)), (1, .inl (x1))]) (st1 := [.inl (s 7 4)]) (h1 := (px_G1, s)) rfl ?_
    cases h
    exact px_D_iret rfl rfl ⟨rfl, rfl⟩
  rw [if_neg hc4] at h
  by_cases hc5 : (x1) = 3
  · rw [if_pos hc5] at h
    refine px_D_tsw (c := 3) rfl hc5 (by decide) rfl ?_
    refine px_D_st 4 (ip1 := 19) (ls1 := [(0, .inr (.inr 5)), (1, .inl (x1))]) (st1 := [.inl (s 7 1)]) (h1 := (px_G1, s)) rfl ?_
    cases h
    exact px_D_iret rfl rfl ⟨rfl, rfl⟩
  rw [if_neg hc5] at h
  by_cases hc6 : (x1) = 4
  · rw [if_pos hc6] at h
    refine px_D_tsw (c := 4) rfl hc6 (by decide) rfl ?_
    refine px_D_st 4 (ip1 := 24) (ls1 := [(0, .inr (.inr 5)), (1, .inl (x1))]) (st1 := [.inl (s 7 2)]) (h1 := (px_G1, s)) rfl ?_
    cases h
    exact px_D_iret rfl rfl ⟨rfl, rfl⟩
  rw [if_neg hc6] at h
  by_cases hc7 : (x1) = 5
  · rw [if_pos hc7] at h
    refine px_D_tsw (c := 5) rfl hc7 (by decide) rfl ?_
    refine px_D_st 4 (ip1 := 29) (ls1 := [(0, .inr (.inr 5)), (1, .inl (x1))]) (st1 := [.inl (s 7 3)]) (h1 := (px_G1, s)) rfl ?_
    cases h
    exact px_D_iret rfl rfl ⟨rfl, rfl⟩
  rw [if_neg hc7] at h
  by_cases hc8 : (x1) = 6
  · rw [if_pos hc8] at h
    refine px_D_tsw (c := 6) rfl hc8 (by decide) rfl ?_
    refine px_D_st 4 (ip1 := 34) (ls1 := [(0, .inr (.inr 5)), (1, .inl (x1))]) (st1 := [.inl (s 7 5)]) (h1 := (px_G1, s)) rfl ?_
    cases h
    exact px_D_iret rfl rfl ⟨rfl, rfl⟩
  rw [if_neg hc8] at h
  by_cases hc9 : (x1) = 7
  · rw [if_pos hc9] at h
    refine px_D_tsw (c := 7) rfl hc9 (by decide) rfl ?_
    refine px_D_st 4 (ip1 := 39) (ls1 := [(0, .inr (.inr 5)), (1, .inl (x1))]) (st1 := [.inl (s 7 7)]) (h1 := (px_G1, s)) rfl ?_
    cases h
    exact px_D_iret rfl rfl ⟨rfl, rfl⟩
  rw [if_neg hc9] at h
  by_cases hc10 : (x1) = 8
  · rw [if_pos hc10] at h
    refine px_D_tsw (c := 8) rfl hc10 (by decide) rfl ?_
    refine px_D_st 4 (ip1 := 44) (ls1 := [(0, .inr (.inr 5)), (1, .inl (x1))]) (st1 := [.inl (s 7 0)]) (h1 := (px_G1, s)) rfl ?_
    cases h
    exact px_D_iret rfl rfl ⟨rfl, rfl⟩
  rw [if_neg hc10] at h
  by_cases hc11 : (x1) = 17
  · rw [if_pos hc11] at h
    refine px_D_tsw (c := 17) rfl hc11 (by decide) rfl ?_
    refine px_D_st 3 (ip1 := 48) (ls1 := [(0, .inr (.inr 5)), (1, .inl (x1))]) (st1 := [.inl (s 88 2)]) (h1 := (px_G1, s)) rfl ?_
    cases h
    exact px_D_iret rfl rfl ⟨rfl, rfl⟩
  rw [if_neg hc11] at h
  by_cases hc12 : (x1) = 20
  · rw [if_pos hc12] at h
    refine px_D_tsw (c := 20) rfl hc12 (by decide) rfl ?_
    refine px_D_st 3 (ip1 := 52) (ls1 := [(0, .inr (.inr 5)), (1, .inl (x1))]) (st1 := [.inl (s 6 2)]) (h1 := (px_G1, s)) rfl ?_
    cases h
    exact px_D_iret rfl rfl ⟨rfl, rfl⟩
  rw [if_neg hc12] at h
  by_cases hc13 : (x1) = 21
  · rw [if_pos hc13] at h
    refine px_D_tsw (c := 21) rfl hc13 (by decide) rfl ?_
    refine px_D_st 3 (ip1 := 56) (ls1 := [(0, .inr (.inr 5)), (1, .inl (x1))]) (st1 := [.inl (s 6 3)]) (h1 := (px_G1, s)) rfl ?_
    cases h
    exact px_D_iret rfl rfl ⟨rfl, rfl⟩
  rw [if_neg hc13] at h
  by_cases hc14 : (x1) = 22
  · rw [if_pos hc14] at h
    refine px_D_tsw (c := 22) rfl hc14 (by decide) rfl ?_
    refine px_D_st 3 (ip1 := 60) (ls1 := [(0, .inr (.inr 5)), (1, .inl (x1))]) (st1 := [.inl (s 6 4)]) (h1 := (px_G1, s)) rfl ?_
    cases h
    exact px_D_iret rfl rfl ⟨rfl, rfl⟩
  rw [if_neg hc14] at h
  by_cases hc15 : (x1) = 9
  · refine px_D_tsw (c := 9) rfl hc15 (by decide) rfl ?_
    refine px_D_st 2 (ip1 := 63) (ls1 := [(0, .inr (.inr 5)), (1, .inl (x1))]) (st1 := [.inl (x1), .inr (.inr 5)]) (h1 := (px_G1, s)) rfl ?_
    refine px_D_call (as := [.inr (.inr 5), .inl (x1)]) (rest := []) rfl rfl rfl rfl ?_
    refine px_D_mono (c_R_lookAtTold (d := d + 0) rfl) ?_
    rintro _ _ ⟨rfl, rfl⟩
    show px_D sc (d + 1) 140 64 [(0, .inr (.inr 5)), (1, .inl (x1))] [.inl (f_R_lookAtTold s x1)] (px_G1, s) _
    cases h
    exact px_D_iret rfl rfl ⟨rfl, rfl⟩
  by_cases hc16 : (x1) = 10
  · refine px_D_tsw (c := 10) rfl hc16 (by decide) rfl ?_
    refine px_D_st 2 (ip1 := 63) (ls1 := [(0, .inr (.inr 5)), (1, .inl (x1))]) (st1 := [.inl (x1), .inr (.inr 5)]) (h1 := (px_G1, s)) rfl ?_
    refine px_D_call (as := [.inr (.inr 5), .inl (x1)]) (rest := []) rfl rfl rfl rfl ?_
    refine px_D_mono (c_R_lookAtTold (d := d + 0) rfl) ?_
    rintro _ _ ⟨rfl, rfl⟩
    show px_D sc (d + 1) 140 64 [(0, .inr (.inr 5)), (1, .inl (x1))] [.inl (f_R_lookAtTold s x1)] (px_G1, s) _
    cases h
    exact px_D_iret rfl rfl ⟨rfl, rfl⟩
  by_cases hc17 : (x1) = 11
  · refine px_D_tsw (c := 11) rfl hc17 (by decide) rfl ?_
    refine px_D_st 2 (ip1 := 63) (ls1 := [(0, .inr (.inr 5)), (1, .inl (x1))]) (st1 := [.inl (x1), .inr (.inr 5)]) (h1 := (px_G1, s)) rfl ?_
    refine px_D_call (as := [.inr (.inr 5), .inl (x1)]) (rest := []) rfl rfl rfl rfl ?_
    refine px_D_mono (c_R_lookAtTold (d := d + 0) rfl) ?_
    rintro _ _ ⟨rfl, rfl⟩
    show px_D sc (d + 1) 140 64 [(0, .inr (.inr 5)), (1, .inl (x1))] [.inl (f_R_lookAtTold s x1)] (px_G1, s) _
    cases h
    exact px_D_iret rfl rfl ⟨rfl, rfl⟩
  by_cases hc18 : (x1) = 12
  · refine px_D_tsw (c := 12) rfl hc18 (by decide) rfl ?_
    refine px_D_st 2 (ip1 := 63) (ls1 := [(0, .inr (.inr 5)), (1, .inl (x1))]) (st1 := [.inl (x1), .inr (.inr 5)]) (h1 := (px_G1, s)) rfl ?_
    refine px_D_call (as := [.inr (.inr 5), .inl (x1)]) (rest := []) rfl rfl rfl rfl ?_
    refine px_D_mono (c_R_lookAtTold (d := d + 0) rfl) ?_
    rintro _ _ ⟨rfl, rfl⟩
    show px_D sc (d + 1) 140 64 [(0, .inr (.inr 5)), (1, .inl (x1))] [.inl (f_R_lookAtTold s x1)] (px_G1, s) _
    cases h
    exact px_D_iret rfl rfl ⟨rfl, rfl⟩
  by_cases hc19 : (x1) = 13
  · refine px_D_tsw (c := 13) rfl hc19 (by decide) rfl ?_
    refine px_D_st 2 (ip1 := 63) (ls1 := [(0, .inr (.inr 5)), (1, .inl (x1))]) (st1 := [.inl (x1), .inr (.inr 5)]) (h1 := (px_G1, s)) rfl ?_
    refine px_D_call (as := [.inr (.inr 5), .inl (x1)]) (rest := []) rfl rfl rfl rfl ?_
    refine px_D_mono (c_R_lookAtTold (d := d + 0) rfl) ?_
    rintro _ _ ⟨rfl, rfl⟩
    show px_D sc (d + 1) 140 64 [(0, .inr (.inr 5)), (1, .inl (x1))] [.inl (f_R_lookAtTold s x1)] (px_G1, s) _
    cases h
    exact px_D_iret rfl rfl ⟨rfl, rfl⟩
  by_cases hc20 : (x1) = 14
  · refine px_D_tsw (c := 14) rfl hc20 (by decide) rfl ?_
    refine px_D_st 2 (ip1 := 63) (ls1 := [(0, .inr (.inr 5)), (1, .inl (x1))]) (st1 := [.inl (x1), .inr (.inr 5)]) (h1 := (px_G1, s)) rfl ?_
    refine px_D_call (as := [.inr (.inr 5), .inl (x1)]) (rest := []) rfl rfl rfl rfl ?_
    refine px_D_mono (c_R_lookAtTold (d := d + 0) rfl) ?_
    rintro _ _ ⟨rfl, rfl⟩
    show px_D sc (d + 1) 140 64 [(0, .inr (.inr 5)), (1, .inl (x1))] [.inl (f_R_lookAtTold s x1)] (px_G1, s) _
    cases h
    exact px_D_iret rfl rfl ⟨rfl, rfl⟩
  by_cases hc21 : (x1) = 15
  · refine px_D_tsw (c := 15) rfl hc21 (by decide) rfl ?_
    refine px_D_st 2 (ip1 := 63) (ls1 := [(0, .inr (.inr 5)), (1, .inl (x1))]) (st1 := [.inl (x1), .inr (.inr 5)]) (h1 := (px_G1, s)) rfl ?_
    refine px_D_call (as := [.inr (.inr 5), .inl (x1)]) (rest := []) rfl rfl rfl rfl ?_
    refine px_D_mono (c_R_lookAtTold (d := d + 0) rfl) ?_
    rintro _ _ ⟨rfl, rfl⟩
    show px_D sc (d + 1) 140 64 [(0, .inr (.inr 5)), (1, .inl (x1))] [.inl (f_R_lookAtTold s x1)] (px_G1, s) _
    cases h
    exact px_D_iret rfl rfl ⟨rfl, rfl⟩
  by_cases hc22 : (x1) = 16
  · refine px_D_tsw (c := 16) rfl hc22 (by decide) rfl ?_
    refine px_D_st 2 (ip1 := 63) (ls1 := [(0, .inr (.inr 5)), (1, .inl (x1))]) (st1 := [.inl (x1), .inr (.inr 5)]) (h1 := (px_G1, s)) rfl ?_
    refine px_D_call (as := [.inr (.inr 5), .inl (x1)]) (rest := []) rfl rfl rfl rfl ?_
    refine px_D_mono (c_R_lookAtTold (d := d + 0) rfl) ?_
    rintro _ _ ⟨rfl, rfl⟩
    show px_D sc (d + 1) 140 64 [(0, .inr (.inr 5)), (1, .inl (x1))] [.inl (f_R_lookAtTold s x1)] (px_G1, s) _
    cases h
    exact px_D_iret rfl rfl ⟨rfl, rfl⟩
  by_cases hc23 : (x1) = 18
  · refine px_D_tsw (c := 18) rfl hc23 (by decide) rfl ?_
    refine px_D_st 2 (ip1 := 63) (ls1 := [(0, .inr (.inr 5)), (1, .inl (x1))]) (st1 := [.inl (x1), .inr (.inr 5)]) (h1 := (px_G1, s)) rfl ?_
    refine px_D_call (as := [.inr (.inr 5), .inl (x1)]) (rest := []) rfl rfl rfl rfl ?_
    refine px_D_mono (c_R_lookAtTold (d := d + 0) rfl) ?_
    rintro _ _ ⟨rfl, rfl⟩
    show px_D sc (d + 1) 140 64 [(0, .inr (.inr 5)), (1, .inl (x1))] [.inl (f_R_lookAtTold s x1)] (px_G1, s) _
    cases h
    exact px_D_iret rfl rfl ⟨rfl, rfl⟩
  by_cases hc24 : (x1) = 19
  · refine px_D_tsw (c := 19) rfl hc24 (by decide) rfl ?_
    refine px_D_st 2 (ip1 := 63) (ls1 := [(0, .inr (.inr 5)), (1, .inl (x1))]) (st1 := [.inl (x1), .inr (.inr 5)]) (h1 := (px_G1, s)) rfl ?_
    refine px_D_call (as := [.inr (.inr 5), .inl (x1)]) (rest := []) rfl rfl rfl rfl ?_
    refine px_D_mono (c_R_lookAtTold (d := d + 0) rfl) ?_
    rintro _ _ ⟨rfl, rfl⟩
    show px_D sc (d + 1) 140 64 [(0, .inr (.inr 5)), (1, .inl (x1))] [.inl (f_R_lookAtTold s x1)] (px_G1, s) _
    cases h
    exact px_D_iret rfl rfl ⟨rfl, rfl⟩
  refine px_D_tswD rfl (by omega) ?_
  refine px_D_st 2 (ip1 := 63) (ls1 := [(0, .inr (.inr 5)), (1, .inl (x1))]) (st1 := [.inl (x1), .inr (.inr 5)]) (h1 := (px_G1, s)) rfl ?_
  refine px_D_call (as := [.inr (.inr 5), .inl (x1)]) (rest := []) rfl rfl rfl rfl ?_
  refine px_D_mono (c_R_lookAtTold (d := d + 0) rfl) ?_
  rintro _ _ ⟨rfl, rfl⟩
  show px_D sc (d + 1) 140 64 [(0, .inr (.inr 5)), (1, .inl (x1))] [.inl (f_R_lookAtTold s x1)] (px_G1, s) _
  cases h
  exact px_D_iret rfl rfl ⟨rfl, rfl⟩

def l_law_10 (sc : List Int)  : Nat → px_Z → Int → Option (Int × px_Z)
  | 0, _, _ => none
  | n + 1, s, x3 => if (px_wr ((((sc.length : Nat) : Int)) - 6)) < (x3) then some (1, s) else (if 0 ≤ (x3) then (sc[(x3).toNat]?).bind (fun q3 => if (px_and (q3) (31)) = 0 then (if 0 ≤ (px_wr (x3 + 1)) then (sc[(px_wr (x3 + 1)).toNat]?).bind (fun q6 => (f_R_state s q6).bind (fun q7 => if 0 ≤ (px_wr (x3 + 1)) then (sc[(px_wr (x3 + 1)).toNat]?).bind (fun q9 => (f_M_state q7.2 q9).bind (fun q10 => if (q7.1) = (q10.1) then l_law_10 sc  n q10.2 (px_wr (x3 + 6)) else some (0, q10.2))) else none)) else none) else (if (px_and (q3) (31)) = 1 then (if 0 ≤ (px_wr (x3 + 1)) then (sc[(px_wr (x3 + 1)).toNat]?).bind (fun q14 => (f_R_thing s q14).bind (fun q15 => if 0 ≤ (px_wr (x3 + 1)) then (sc[(px_wr (x3 + 1)).toNat]?).bind (fun q17 => (f_M_thing q15.2 q17).bind (fun q18 => if (q15.1) = (q18.1) then l_law_10 sc  n q18.2 (px_wr (x3 + 6)) else some (0, q18.2))) else none)) else none) else (if (px_and (q3) (31)) = 2 then (if 0 ≤ (px_wr (x3 + 1)) then (sc[(px_wr (x3 + 1)).toNat]?).bind (fun q22 => if 0 ≤ (px_wr (x3 + 2)) then (sc[(px_wr (x3 + 2)).toNat]?).bind (fun q24 => if 0 ≤ (px_wr (x3 + 3)) then (sc[(px_wr (x3 + 3)).toNat]?).bind (fun q26 => (f_R_set s q22 q24 q26).bind (fun q27 => if 0 ≤ (px_wr (x3 + 1)) then (sc[(px_wr (x3 + 1)).toNat]?).bind (fun q29 => if 0 ≤ (px_wr (x3 + 2)) then (sc[(px_wr (x3 + 2)).toNat]?).bind (fun q31 => if 0 ≤ (px_wr (x3 + 3)) then (sc[(px_wr (x3 + 3)).toNat]?).bind (fun q33 => (f_M_set q27.2 q29 q31 q33).bind (fun q34 => if (q27.1) = (q34.1) then l_law_10 sc  n q34.2 (px_wr (x3 + 6)) else some (0, q34.2))) else none) else none) else none)) else none) else none) else none) else (if (px_and (q3) (31)) = 3 then (if 0 ≤ (px_wr (x3 + 1)) then (sc[(px_wr (x3 + 1)).toNat]?).bind (fun q38 => if 0 ≤ (px_wr (x3 + 2)) then (sc[(px_wr (x3 + 2)).toNat]?).bind (fun q40 => if 0 ≤ (px_wr (x3 + 3)) then (sc[(px_wr (x3 + 3)).toNat]?).bind (fun q42 => if 0 ≤ (px_wr (x3 + 4)) then (sc[(px_wr (x3 + 4)).toNat]?).bind (fun q44 => if 0 ≤ (px_wr (x3 + 5)) then (sc[(px_wr (x3 + 5)).toNat]?).bind (fun q46 => (f_R_feed s q38 q40 q42 q44 q46).bind (fun q47 => if 0 ≤ (px_wr (x3 + 1)) then (sc[(px_wr (x3 + 1)).toNat]?).bind (fun q49 => if 0 ≤ (px_wr (x3 + 2)) then (sc[(px_wr (x3 + 2)).toNat]?).bind (fun q51 => if 0 ≤ (px_wr (x3 + 3)) then (sc[(px_wr (x3 + 3)).toNat]?).bind (fun q53 => if 0 ≤ (px_wr (x3 + 4)) then (sc[(px_wr (x3 + 4)).toNat]?).bind (fun q55 => if 0 ≤ (px_wr (x3 + 5)) then (sc[(px_wr (x3 + 5)).toNat]?).bind (fun q57 => (f_M_feed q47.2 q49 q51 q53 q55 q57).bind (fun q58 => if (q47.1) = (q58.1) then l_law_10 sc  n q58.2 (px_wr (x3 + 6)) else some (0, q58.2))) else none) else none) else none) else none) else none)) else none) else none) else none) else none) else none) else (if (px_and (q3) (31)) = 4 then (if 0 ≤ (px_wr (x3 + 1)) then (sc[(px_wr (x3 + 1)).toNat]?).bind (fun q62 => (f_R_end s q62).bind (fun q63 => if 0 ≤ (px_wr (x3 + 1)) then (sc[(px_wr (x3 + 1)).toNat]?).bind (fun q65 => (f_M_end q63.2 q65).bind (fun q66 => if (q63.1) = (q66.1) then l_law_10 sc  n q66.2 (px_wr (x3 + 6)) else some (0, q66.2))) else none)) else none) else (if (px_and (q3) (31)) = 5 then (if 0 ≤ (px_wr (x3 + 1)) then (sc[(px_wr (x3 + 1)).toNat]?).bind (fun q70 => (f_R_text s q70).bind (fun q71 => if 0 ≤ (px_wr (x3 + 1)) then (sc[(px_wr (x3 + 1)).toNat]?).bind (fun q73 => (f_M_text q71.2 q73).bind (fun q74 => if (q71.1) = (q74.1) then l_law_10 sc  n q74.2 (px_wr (x3 + 6)) else some (0, q74.2))) else none)) else none) else (if (px_and (q3) (31)) = 6 then (if 0 ≤ (px_wr (x3 + 1)) then (sc[(px_wr (x3 + 1)).toNat]?).bind (fun q78 => if 0 ≤ (px_wr (x3 + 1)) then (sc[(px_wr (x3 + 1)).toNat]?).bind (fun q80 => (f_M_fault s q80).bind (fun q81 => if (f_R_fault s q78) = (q81.1) then l_law_10 sc  n q81.2 (px_wr (x3 + 6)) else some (0, q81.2))) else none) else none) else (if (px_and (q3) (31)) = 7 then (if 0 ≤ (px_wr (x3 + 1)) then (sc[(px_wr (x3 + 1)).toNat]?).bind (fun q85 => if 0 ≤ (px_wr (x3 + 2)) then (sc[(px_wr (x3 + 2)).toNat]?).bind (fun q87 => (f_R_pay s q85 q87).bind (fun q88 => if 0 ≤ (px_wr (x3 + 1)) then (sc[(px_wr (x3 + 1)).toNat]?).bind (fun q90 => if 0 ≤ (px_wr (x3 + 2)) then (sc[(px_wr (x3 + 2)).toNat]?).bind (fun q92 => (f_M_pay q88.2 q90 q92).bind (fun q93 => if (q88.1) = (q93.1) then l_law_10 sc  n q93.2 (px_wr (x3 + 6)) else some (0, q93.2))) else none) else none)) else none) else none) else (if (px_and (q3) (31)) = 8 then (if 0 ≤ (px_wr (x3 + 1)) then (sc[(px_wr (x3 + 1)).toNat]?).bind (fun q97 => (f_R_cry s q97).bind (fun q98 => if 0 ≤ (px_wr (x3 + 1)) then (sc[(px_wr (x3 + 1)).toNat]?).bind (fun q100 => (f_M_cry q98.2 q100).bind (fun q101 => if (q98.1) = (q101.1) then l_law_10 sc  n q101.2 (px_wr (x3 + 6)) else some (0, q101.2))) else none)) else none) else (if (px_and (q3) (31)) = 9 then (if 0 ≤ (px_wr (x3 + 1)) then (sc[(px_wr (x3 + 1)).toNat]?).bind (fun q105 => (f_R_weeks s q105).bind (fun q106 => if 0 ≤ (px_wr (x3 + 1)) then (sc[(px_wr (x3 + 1)).toNat]?).bind (fun q108 => (f_M_weeks q106.2 q108).bind (fun q109 => if (q106.1) = (q109.1) then l_law_10 sc  n q109.2 (px_wr (x3 + 6)) else some (0, q109.2))) else none)) else none) else (if (px_and (q3) (31)) = 10 then (f_R_goes s ).bind (fun q112 => (f_M_goes q112.2 ).bind (fun q113 => if (q112.1) = (q113.1) then l_law_10 sc  n q113.2 (px_wr (x3 + 6)) else some (0, q113.2))) else (if (px_and (q3) (31)) = 11 then (if 0 ≤ (px_wr (x3 + 1)) then (sc[(px_wr (x3 + 1)).toNat]?).bind (fun q117 => if 0 ≤ (px_wr (x3 + 2)) then (sc[(px_wr (x3 + 2)).toNat]?).bind (fun q119 => (f_R_of s q117 q119).bind (fun q120 => if 0 ≤ (px_wr (x3 + 1)) then (sc[(px_wr (x3 + 1)).toNat]?).bind (fun q122 => if 0 ≤ (px_wr (x3 + 2)) then (sc[(px_wr (x3 + 2)).toNat]?).bind (fun q124 => (f_M_of q120.2 q122 q124).bind (fun q125 => if (q120.1) = (q125.1) then l_law_10 sc  n q125.2 (px_wr (x3 + 6)) else some (0, q125.2))) else none) else none)) else none) else none) else (if (px_and (q3) (31)) = 12 then (if 0 ≤ (px_wr (x3 + 1)) then (sc[(px_wr (x3 + 1)).toNat]?).bind (fun q129 => if 0 ≤ (px_wr (x3 + 2)) then (sc[(px_wr (x3 + 2)).toNat]?).bind (fun q131 => (f_R_mud s q129 q131).bind (fun q132 => if 0 ≤ (px_wr (x3 + 1)) then (sc[(px_wr (x3 + 1)).toNat]?).bind (fun q134 => if 0 ≤ (px_wr (x3 + 2)) then (sc[(px_wr (x3 + 2)).toNat]?).bind (fun q136 => (f_M_mud s q134 q136).bind (fun q137 => if (q132) = (q137.1) then l_law_10 sc  n q137.2 (px_wr (x3 + 6)) else some (0, q137.2))) else none) else none)) else none) else none) else (if (px_and (q3) (31)) = 13 then (if 0 ≤ (px_wr (x3 + 1)) then (sc[(px_wr (x3 + 1)).toNat]?).bind (fun q141 => if 0 ≤ (px_wr (x3 + 2)) then (sc[(px_wr (x3 + 2)).toNat]?).bind (fun q143 => (f_R_book s q141 q143).bind (fun q144 => if 0 ≤ (px_wr (x3 + 1)) then (sc[(px_wr (x3 + 1)).toNat]?).bind (fun q146 => if 0 ≤ (px_wr (x3 + 2)) then (sc[(px_wr (x3 + 2)).toNat]?).bind (fun q148 => (f_M_book s q146 q148).bind (fun q149 => if (q144) = (q149.1) then l_law_10 sc  n q149.2 (px_wr (x3 + 6)) else some (0, q149.2))) else none) else none)) else none) else none) else (if (px_and (q3) (31)) = 14 then (if 0 ≤ (px_wr (x3 + 1)) then (sc[(px_wr (x3 + 1)).toNat]?).bind (fun q153 => (f_R_least s q153).bind (fun q154 => if 0 ≤ (px_wr (x3 + 1)) then (sc[(px_wr (x3 + 1)).toNat]?).bind (fun q156 => (f_M_least q154.2 q156).bind (fun q157 => if (q154.1) = (q157.1) then l_law_10 sc  n q157.2 (px_wr (x3 + 6)) else some (0, q157.2))) else none)) else none) else (if (px_and (q3) (31)) = 15 then (if 0 ≤ (px_wr (x3 + 1)) then (sc[(px_wr (x3 + 1)).toNat]?).bind (fun q161 => (f_R_orders s q161).bind (fun q162 => if 0 ≤ (px_wr (x3 + 1)) then (sc[(px_wr (x3 + 1)).toNat]?).bind (fun q164 => (f_M_orders q162.2 q164).bind (fun q165 => if (q162.1) = (q165.1) then l_law_10 sc  n q165.2 (px_wr (x3 + 6)) else some (0, q165.2))) else none)) else none) else (if (px_and (q3) (31)) = 16 then (if 0 ≤ (px_wr (x3 + 1)) then (sc[(px_wr (x3 + 1)).toNat]?).bind (fun q169 => if 0 ≤ (px_wr (x3 + 2)) then (sc[(px_wr (x3 + 2)).toNat]?).bind (fun q171 => if 0 ≤ (px_wr (x3 + 3)) then (sc[(px_wr (x3 + 3)).toNat]?).bind (fun q173 => if 0 ≤ (px_wr (x3 + 4)) then (sc[(px_wr (x3 + 4)).toNat]?).bind (fun q175 => (f_R_fits s q169 q171 q173 q175).bind (fun q176 => if 0 ≤ (px_wr (x3 + 1)) then (sc[(px_wr (x3 + 1)).toNat]?).bind (fun q178 => if 0 ≤ (px_wr (x3 + 2)) then (sc[(px_wr (x3 + 2)).toNat]?).bind (fun q180 => if 0 ≤ (px_wr (x3 + 3)) then (sc[(px_wr (x3 + 3)).toNat]?).bind (fun q182 => if 0 ≤ (px_wr (x3 + 4)) then (sc[(px_wr (x3 + 4)).toNat]?).bind (fun q184 => (f_M_fits s q178 q180 q182 q184).bind (fun q185 => if (q176) = (q185.1) then l_law_10 sc  n q185.2 (px_wr (x3 + 6)) else some (0, q185.2))) else none) else none) else none) else none)) else none) else none) else none) else none) else (if (px_and (q3) (31)) = 17 then (f_R_kept s ).bind (fun q188 => (f_M_kept s ).bind (fun q189 => if (q188) = (q189.1) then l_law_10 sc  n q189.2 (px_wr (x3 + 6)) else some (0, q189.2))) else (if (px_and (q3) (31)) = 18 then (if 0 ≤ (px_wr (x3 + 1)) then (sc[(px_wr (x3 + 1)).toNat]?).bind (fun q193 => (f_R_letter s q193).bind (fun q194 => if 0 ≤ (px_wr (x3 + 1)) then (sc[(px_wr (x3 + 1)).toNat]?).bind (fun q196 => (f_M_letter q194.2 q196).bind (fun q197 => if (q194.1) = (q197.1) then l_law_10 sc  n q197.2 (px_wr (x3 + 6)) else some (0, q197.2))) else none)) else none) else (if (px_and (q3) (31)) = 19 then (if 0 ≤ (px_wr (x3 + 1)) then (sc[(px_wr (x3 + 1)).toNat]?).bind (fun q201 => (f_R_letters s q201).bind (fun q202 => if 0 ≤ (px_wr (x3 + 1)) then (sc[(px_wr (x3 + 1)).toNat]?).bind (fun q204 => (f_M_letters s q204).bind (fun q205 => if (q202) = (q205.1) then l_law_10 sc  n q205.2 (px_wr (x3 + 6)) else some (0, q205.2))) else none)) else none) else (if (px_and (q3) (31)) = 20 then (if 0 ≤ (px_wr (x3 + 1)) then (sc[(px_wr (x3 + 1)).toNat]?).bind (fun q209 => if 0 ≤ (px_wr (x3 + 2)) then (sc[(px_wr (x3 + 2)).toNat]?).bind (fun q211 => if 0 ≤ (px_wr (x3 + 3)) then (sc[(px_wr (x3 + 3)).toNat]?).bind (fun q213 => (f_R_sight s q209 q211 q213).bind (fun q214 => if 0 ≤ (px_wr (x3 + 1)) then (sc[(px_wr (x3 + 1)).toNat]?).bind (fun q216 => if 0 ≤ (px_wr (x3 + 2)) then (sc[(px_wr (x3 + 2)).toNat]?).bind (fun q218 => if 0 ≤ (px_wr (x3 + 3)) then (sc[(px_wr (x3 + 3)).toNat]?).bind (fun q220 => (f_M_sight q214.2 q216 q218 q220).bind (fun q221 => if (q214.1) = (q221.1) then l_law_10 sc  n q221.2 (px_wr (x3 + 6)) else some (0, q221.2))) else none) else none) else none)) else none) else none) else none) else (if (px_and (q3) (31)) = 21 then (f_R_wrong s ).bind (fun q224 => (f_M_wrong s ).bind (fun q225 => if (q224) = (q225.1) then l_law_10 sc  n q225.2 (px_wr (x3 + 6)) else some (0, q225.2))) else (if (px_and (q3) (31)) = 22 then (f_R_lasts s ).bind (fun q228 => (f_M_lasts q228.2 ).bind (fun q229 => if (q228.1) = (q229.1) then l_law_10 sc  n q229.2 (px_wr (x3 + 6)) else some (0, q229.2))) else (if (px_and (q3) (31)) = 23 then (if 0 ≤ (px_wr (x3 + 1)) then (sc[(px_wr (x3 + 1)).toNat]?).bind (fun q233 => if 0 ≤ (px_wr (x3 + 2)) then (sc[(px_wr (x3 + 2)).toNat]?).bind (fun q235 => if 0 ≤ (px_wr (x3 + 3)) then (sc[(px_wr (x3 + 3)).toNat]?).bind (fun q237 => if 0 ≤ (px_wr (x3 + 4)) then (sc[(px_wr (x3 + 4)).toNat]?).bind (fun q239 => (f_R_cards s q233 q235 q237 q239).bind (fun q240 => if 0 ≤ (px_wr (x3 + 1)) then (sc[(px_wr (x3 + 1)).toNat]?).bind (fun q242 => if 0 ≤ (px_wr (x3 + 2)) then (sc[(px_wr (x3 + 2)).toNat]?).bind (fun q244 => if 0 ≤ (px_wr (x3 + 3)) then (sc[(px_wr (x3 + 3)).toNat]?).bind (fun q246 => if 0 ≤ (px_wr (x3 + 4)) then (sc[(px_wr (x3 + 4)).toNat]?).bind (fun q248 => (f_M_cards s q242 q244 q246 q248).bind (fun q249 => if ((if (q240) < (q249.1) then -1 else if (q240) = (q249.1) then 0 else 1)) = (0) then l_law_10 sc  n q249.2 (px_wr (x3 + 6)) else some (0, q249.2))) else none) else none) else none) else none)) else none) else none) else none) else none) else (if (px_and (q3) (31)) = 24 then (if 0 ≤ (px_wr (x3 + 1)) then (sc[(px_wr (x3 + 1)).toNat]?).bind (fun q253 => if 0 ≤ (px_wr (x3 + 2)) then (sc[(px_wr (x3 + 2)).toNat]?).bind (fun q255 => if 0 ≤ (px_wr (x3 + 3)) then (sc[(px_wr (x3 + 3)).toNat]?).bind (fun q257 => if 0 ≤ (px_wr (x3 + 4)) then (sc[(px_wr (x3 + 4)).toNat]?).bind (fun q259 => (f_R_share s q253 q255 q257 q259).bind (fun q260 => if 0 ≤ (px_wr (x3 + 1)) then (sc[(px_wr (x3 + 1)).toNat]?).bind (fun q262 => if 0 ≤ (px_wr (x3 + 2)) then (sc[(px_wr (x3 + 2)).toNat]?).bind (fun q264 => if 0 ≤ (px_wr (x3 + 3)) then (sc[(px_wr (x3 + 3)).toNat]?).bind (fun q266 => if 0 ≤ (px_wr (x3 + 4)) then (sc[(px_wr (x3 + 4)).toNat]?).bind (fun q268 => (f_M_share s q262 q264 q266 q268).bind (fun q269 => if (q260) = (q269.1) then l_law_10 sc  n q269.2 (px_wr (x3 + 6)) else some (0, q269.2))) else none) else none) else none) else none)) else none) else none) else none) else none) else (if (px_and (q3) (31)) = 25 then (if 0 ≤ (px_wr (x3 + 1)) then (sc[(px_wr (x3 + 1)).toNat]?).bind (fun q273 => if 0 ≤ (px_wr (x3 + 2)) then (sc[(px_wr (x3 + 2)).toNat]?).bind (fun q275 => (f_R_errand s q273 q275).bind (fun q276 => if 0 ≤ (px_wr (x3 + 1)) then (sc[(px_wr (x3 + 1)).toNat]?).bind (fun q278 => if 0 ≤ (px_wr (x3 + 2)) then (sc[(px_wr (x3 + 2)).toNat]?).bind (fun q280 => (f_M_errand q276.2 q278 q280).bind (fun q281 => if (q276.1) = (q281.1) then l_law_10 sc  n q281.2 (px_wr (x3 + 6)) else some (0, q281.2))) else none) else none)) else none) else none) else (if (px_and (q3) (31)) = 26 then (if 0 ≤ (px_wr (x3 + 1)) then (sc[(px_wr (x3 + 1)).toNat]?).bind (fun q285 => (f_R_messengers s q285).bind (fun q286 => if 0 ≤ (px_wr (x3 + 1)) then (sc[(px_wr (x3 + 1)).toNat]?).bind (fun q288 => (f_M_messengers s q288).bind (fun q289 => if (q286) = (q289.1) then l_law_10 sc  n q289.2 (px_wr (x3 + 6)) else some (0, q289.2))) else none)) else none) else (if (px_and (q3) (31)) = 27 then (if 0 ≤ (px_wr (x3 + 1)) then (sc[(px_wr (x3 + 1)).toNat]?).bind (fun q293 => (f_R_hit s q293).bind (fun q294 => if 0 ≤ (px_wr (x3 + 1)) then (sc[(px_wr (x3 + 1)).toNat]?).bind (fun q296 => (f_M_hit q294.2 q296).bind (fun q297 => if (q294.1) = (q297.1) then l_law_10 sc  n q297.2 (px_wr (x3 + 6)) else some (0, q297.2))) else none)) else none) else (if (px_and (q3) (31)) = 28 then (f_R_undo s ).bind (fun q300 => (f_M_undo q300.2 ).bind (fun q301 => if (q300.1) = (q301.1) then l_law_10 sc  n q301.2 (px_wr (x3 + 6)) else some (0, q301.2))) else (if (px_and (q3) (31)) = 29 then (if 0 ≤ (px_wr (x3 + 1)) then (sc[(px_wr (x3 + 1)).toNat]?).bind (fun q305 => if (q305) = (0) then (f_R_image s 0).bind (fun q307 => if 0 ≤ (px_wr (x3 + 1)) then (sc[(px_wr (x3 + 1)).toNat]?).bind (fun q309 => if (q309) = (0) then (f_M_image q307.2 0).bind (fun q311 => if (q307.1) = (q311.1) then l_law_10 sc  n q311.2 (px_wr (x3 + 6)) else some (0, q311.2)) else (f_M_image q307.2 1).bind (fun q313 => if (q307.1) = (q313.1) then l_law_10 sc  n q313.2 (px_wr (x3 + 6)) else some (0, q313.2))) else none) else (f_R_image s 1).bind (fun q315 => if 0 ≤ (px_wr (x3 + 1)) then (sc[(px_wr (x3 + 1)).toNat]?).bind (fun q317 => if (q317) = (0) then (f_M_image q315.2 0).bind (fun q319 => if (q315.1) = (q319.1) then l_law_10 sc  n q319.2 (px_wr (x3 + 6)) else some (0, q319.2)) else (f_M_image q315.2 1).bind (fun q321 => if (q315.1) = (q321.1) then l_law_10 sc  n q321.2 (px_wr (x3 + 6)) else some (0, q321.2))) else none)) else none) else (if (px_and (q3) (31)) = 30 then (if 0 ≤ (px_wr (x3 + 1)) then (sc[(px_wr (x3 + 1)).toNat]?).bind (fun q325 => (f_R_look s q325).bind (fun q326 => if 0 ≤ (px_wr (x3 + 1)) then (sc[(px_wr (x3 + 1)).toNat]?).bind (fun q328 => (f_M_look s q328).bind (fun q329 => if (q326) = (q329.1) then l_law_10 sc  n q329.2 (px_wr (x3 + 6)) else some (0, q329.2))) else none)) else none) else l_law_10 sc  n s (px_wr (x3 + 6))))))))))))))))))))))))))))))))) else none)
set_option maxHeartbeats 4000000 in
set_option maxRecDepth 100000 in
theorem cl_law_10 {sc : List Int} {d : Nat}  : ∀ (n : Nat) (s : px_Z) (x3 : Int) (out : Int × px_Z), l_law_10 sc  n s x3 = some out → px_D sc (d + 196) 282 10 [(0, .inr (.inr 1)), (1, .inr (.inr 5)), (2, .inr (.inr 150)), (3, .inl (x3))] [] (px_G1, s) (px_Qi out) := by
  intro n
  induction n with
  | zero => intro s x3 out h; cases h
  | succ n ih =>
    intro s x3 out h
    rw [l_law_10] at h
    refine px_D_st 5 (ip1 := 15) (ls1 := [(0, .inr (.inr 1)), (1, .inr (.inr 5)), (2, .inr (.inr 150)), (3, .inl (x3))]) (st1 := [.inl (px_wr ((((sc.length : Nat) : Int)) - 6)), .inl (x3)]) (h1 := (px_G1, s)) rfl ?_
    refine px_D_icmp rfl (fun hc => ?_) (fun hc => ?_)
    · have hc1 : (px_wr ((((sc.length : Nat) : Int)) - 6)) < (x3) := of_decide_eq_true hc
      rw [if_pos hc1] at h
      refine px_D_st 1 (ip1 := 731) (ls1 := [(0, .inr (.inr 1)), (1, .inr (.inr 5)), (2, .inr (.inr 150)), (3, .inl (x3))]) (st1 := [.inl (1)]) (h1 := (px_G1, s)) rfl ?_
      cases h
      exact px_D_iret rfl rfl ⟨rfl, rfl⟩
    · have hc1 : ¬ ((px_wr ((((sc.length : Nat) : Int)) - 6)) < (x3)) := of_decide_eq_false hc
      rw [if_neg hc1] at h
      refine px_D_st 2 (ip1 := 18) (ls1 := [(0, .inr (.inr 1)), (1, .inr (.inr 5)), (2, .inr (.inr 150)), (3, .inl (x3))]) (st1 := [.inl (x3), .inr (.inr 1)]) (h1 := (px_G1, s)) rfl ?_
      by_cases hc2 : 0 ≤ (x3)
      case neg => rw [if_neg hc2] at h; cases h
      rw [if_pos hc2] at h
      obtain ⟨q3, hq3, h⟩ := Option.bind_eq_some_iff.mp h
      refine px_D_sld (j := x3) rfl hc2 hq3 ?_
      refine px_D_st 2 (ip1 := 21) (ls1 := [(0, .inr (.inr 1)), (1, .inr (.inr 5)), (2, .inr (.inr 150)), (3, .inl (x3))]) (st1 := [.inl (px_and (q3) (31))]) (h1 := (px_G1, s)) rfl ?_
      by_cases hc4 : (px_and (q3) (31)) = 0
      · rw [if_pos hc4] at h
        refine px_D_tsw (c := 0) rfl hc4 (by decide) rfl ?_
        refine px_D_st 5 (ip1 := 27) (ls1 := [(0, .inr (.inr 1)), (1, .inr (.inr 5)), (2, .inr (.inr 150)), (3, .inl (x3))]) (st1 := [.inl (px_wr (x3 + 1)), .inr (.inr 1), .inr (.inr 5)]) (h1 := (px_G1, s)) rfl ?_
        by_cases hc5 : 0 ≤ (px_wr (x3 + 1))
        case neg => rw [if_neg hc5] at h; cases h
        rw [if_pos hc5] at h
        obtain ⟨q6, hq6, h⟩ := Option.bind_eq_some_iff.mp h
        refine px_D_sld (j := px_wr (x3 + 1)) rfl hc5 hq6 ?_
        refine px_D_call (as := [.inr (.inr 5), .inl (q6)]) (rest := []) rfl rfl rfl rfl ?_
        obtain ⟨q7, hq7, h⟩ := Option.bind_eq_some_iff.mp h
        refine px_D_mono (c_R_state (d := d + 193) hq7) ?_
        rintro _ _ ⟨rfl, rfl⟩
        show px_D sc (d + 196) 282 29 [(0, .inr (.inr 1)), (1, .inr (.inr 5)), (2, .inr (.inr 150)), (3, .inl (x3))] [.inl (q7.1)] (px_G1, q7.2) _
        refine px_D_st 5 (ip1 := 34) (ls1 := [(0, .inr (.inr 1)), (1, .inr (.inr 5)), (2, .inr (.inr 150)), (3, .inl (x3))]) (st1 := [.inl (px_wr (x3 + 1)), .inr (.inr 1), .inr (.inr 150), .inl (q7.1)]) (h1 := (px_G1, q7.2)) rfl ?_
        by_cases hc8 : 0 ≤ (px_wr (x3 + 1))
        case neg => rw [if_neg hc8] at h; cases h
        rw [if_pos hc8] at h
        obtain ⟨q9, hq9, h⟩ := Option.bind_eq_some_iff.mp h
        refine px_D_sld (j := px_wr (x3 + 1)) rfl hc8 hq9 ?_
        refine px_D_call (as := [.inr (.inr 150), .inl (q9)]) (rest := [.inl (q7.1)]) rfl rfl rfl rfl ?_
        obtain ⟨q10, hq10, h⟩ := Option.bind_eq_some_iff.mp h
        refine px_D_mono (c_M_state (d := d + 195) hq10) ?_
        rintro _ _ ⟨rfl, rfl⟩
        show px_D sc (d + 196) 282 36 [(0, .inr (.inr 1)), (1, .inr (.inr 5)), (2, .inr (.inr 150)), (3, .inl (x3))] [.inl (q10.1), .inl (q7.1)] (px_G1, q10.2) _
        refine px_D_icmp rfl (fun hc => ?_) (fun hc => ?_)
        · have hc11 : (q7.1) = (q10.1) := of_decide_eq_true hc
          rw [if_pos hc11] at h
          refine px_D_st 2 (ip1 := 10) (ls1 := [(3, .inl (px_wr (x3 + 6))), (0, .inr (.inr 1)), (1, .inr (.inr 5)), (2, .inr (.inr 150))]) (st1 := []) (h1 := (px_G1, q10.2)) rfl ?_
          refine px_D_ls [(0, .inr (.inr 1)), (1, .inr (.inr 5)), (2, .inr (.inr 150)), (3, .inl (px_wr (x3 + 6)))] rfl rfl (List.forall_mem_cons.mpr ⟨rfl, List.forall_mem_cons.mpr ⟨rfl, List.forall_mem_cons.mpr ⟨rfl, List.forall_mem_cons.mpr ⟨rfl, fun _ h => absurd h List.not_mem_nil⟩⟩⟩⟩) ?_
          exact ih _ _ _ h
        · have hc11 : ¬ ((q7.1) = (q10.1)) := of_decide_eq_false hc
          rw [if_neg hc11] at h
          refine px_D_st 1 (ip1 := 38) (ls1 := [(0, .inr (.inr 1)), (1, .inr (.inr 5)), (2, .inr (.inr 150)), (3, .inl (x3))]) (st1 := [.inl (0)]) (h1 := (px_G1, q10.2)) rfl ?_
          cases h
          exact px_D_iret rfl rfl ⟨rfl, rfl⟩
      rw [if_neg hc4] at h
      by_cases hc12 : (px_and (q3) (31)) = 1
      · rw [if_pos hc12] at h
        refine px_D_tsw (c := 1) rfl hc12 (by decide) rfl ?_
        refine px_D_st 5 (ip1 := 44) (ls1 := [(0, .inr (.inr 1)), (1, .inr (.inr 5)), (2, .inr (.inr 150)), (3, .inl (x3))]) (st1 := [.inl (px_wr (x3 + 1)), .inr (.inr 1), .inr (.inr 5)]) (h1 := (px_G1, s)) rfl ?_
        by_cases hc13 : 0 ≤ (px_wr (x3 + 1))
        case neg => rw [if_neg hc13] at h; cases h
        rw [if_pos hc13] at h
        obtain ⟨q14, hq14, h⟩ := Option.bind_eq_some_iff.mp h
        refine px_D_sld (j := px_wr (x3 + 1)) rfl hc13 hq14 ?_
        refine px_D_call (as := [.inr (.inr 5), .inl (q14)]) (rest := []) rfl rfl rfl rfl ?_
        obtain ⟨q15, hq15, h⟩ := Option.bind_eq_some_iff.mp h
        refine px_D_mono (c_R_thing (d := d + 193) hq15) ?_
        rintro _ _ ⟨rfl, rfl⟩
        show px_D sc (d + 196) 282 46 [(0, .inr (.inr 1)), (1, .inr (.inr 5)), (2, .inr (.inr 150)), (3, .inl (x3))] [.inl (q15.1)] (px_G1, q15.2) _
        refine px_D_st 5 (ip1 := 51) (ls1 := [(0, .inr (.inr 1)), (1, .inr (.inr 5)), (2, .inr (.inr 150)), (3, .inl (x3))]) (st1 := [.inl (px_wr (x3 + 1)), .inr (.inr 1), .inr (.inr 150), .inl (q15.1)]) (h1 := (px_G1, q15.2)) rfl ?_
        by_cases hc16 : 0 ≤ (px_wr (x3 + 1))
        case neg => rw [if_neg hc16] at h; cases h
        rw [if_pos hc16] at h
        obtain ⟨q17, hq17, h⟩ := Option.bind_eq_some_iff.mp h
        refine px_D_sld (j := px_wr (x3 + 1)) rfl hc16 hq17 ?_
        refine px_D_call (as := [.inr (.inr 150), .inl (q17)]) (rest := [.inl (q15.1)]) rfl rfl rfl rfl ?_
        obtain ⟨q18, hq18, h⟩ := Option.bind_eq_some_iff.mp h
        refine px_D_mono (c_M_thing (d := d + 194) hq18) ?_
        rintro _ _ ⟨rfl, rfl⟩
        show px_D sc (d + 196) 282 53 [(0, .inr (.inr 1)), (1, .inr (.inr 5)), (2, .inr (.inr 150)), (3, .inl (x3))] [.inl (q18.1), .inl (q15.1)] (px_G1, q18.2) _
        refine px_D_icmp rfl (fun hc => ?_) (fun hc => ?_)
        · have hc19 : (q15.1) = (q18.1) := of_decide_eq_true hc
          rw [if_pos hc19] at h
          refine px_D_st 2 (ip1 := 10) (ls1 := [(3, .inl (px_wr (x3 + 6))), (0, .inr (.inr 1)), (1, .inr (.inr 5)), (2, .inr (.inr 150))]) (st1 := []) (h1 := (px_G1, q18.2)) rfl ?_
          refine px_D_ls [(0, .inr (.inr 1)), (1, .inr (.inr 5)), (2, .inr (.inr 150)), (3, .inl (px_wr (x3 + 6)))] rfl rfl (List.forall_mem_cons.mpr ⟨rfl, List.forall_mem_cons.mpr ⟨rfl, List.forall_mem_cons.mpr ⟨rfl, List.forall_mem_cons.mpr ⟨rfl, fun _ h => absurd h List.not_mem_nil⟩⟩⟩⟩) ?_
          exact ih _ _ _ h
        · have hc19 : ¬ ((q15.1) = (q18.1)) := of_decide_eq_false hc
          rw [if_neg hc19] at h
          refine px_D_st 1 (ip1 := 55) (ls1 := [(0, .inr (.inr 1)), (1, .inr (.inr 5)), (2, .inr (.inr 150)), (3, .inl (x3))]) (st1 := [.inl (0)]) (h1 := (px_G1, q18.2)) rfl ?_
          cases h
          exact px_D_iret rfl rfl ⟨rfl, rfl⟩
      rw [if_neg hc12] at h
      by_cases hc20 : (px_and (q3) (31)) = 2
      · rw [if_pos hc20] at h
        refine px_D_tsw (c := 2) rfl hc20 (by decide) rfl ?_
        refine px_D_st 5 (ip1 := 61) (ls1 := [(0, .inr (.inr 1)), (1, .inr (.inr 5)), (2, .inr (.inr 150)), (3, .inl (x3))]) (st1 := [.inl (px_wr (x3 + 1)), .inr (.inr 1), .inr (.inr 5)]) (h1 := (px_G1, s)) rfl ?_
        by_cases hc21 : 0 ≤ (px_wr (x3 + 1))
        case neg => rw [if_neg hc21] at h; cases h
        rw [if_pos hc21] at h
        obtain ⟨q22, hq22, h⟩ := Option.bind_eq_some_iff.mp h
        refine px_D_sld (j := px_wr (x3 + 1)) rfl hc21 hq22 ?_
        refine px_D_st 4 (ip1 := 66) (ls1 := [(0, .inr (.inr 1)), (1, .inr (.inr 5)), (2, .inr (.inr 150)), (3, .inl (x3))]) (st1 := [.inl (px_wr (x3 + 2)), .inr (.inr 1), .inl (q22), .inr (.inr 5)]) (h1 := (px_G1, s)) rfl ?_
        by_cases hc23 : 0 ≤ (px_wr (x3 + 2))
        case neg => rw [if_neg hc23] at h; cases h
        rw [if_pos hc23] at h
        obtain ⟨q24, hq24, h⟩ := Option.bind_eq_some_iff.mp h
        refine px_D_sld (j := px_wr (x3 + 2)) rfl hc23 hq24 ?_
        refine px_D_st 4 (ip1 := 71) (ls1 := [(0, .inr (.inr 1)), (1, .inr (.inr 5)), (2, .inr (.inr 150)), (3, .inl (x3))]) (st1 := [.inl (px_wr (x3 + 3)), .inr (.inr 1), .inl (q24), .inl (q22), .inr (.inr 5)]) (h1 := (px_G1, s)) rfl ?_
        by_cases hc25 : 0 ≤ (px_wr (x3 + 3))
        case neg => rw [if_neg hc25] at h; cases h
        rw [if_pos hc25] at h
        obtain ⟨q26, hq26, h⟩ := Option.bind_eq_some_iff.mp h
        refine px_D_sld (j := px_wr (x3 + 3)) rfl hc25 hq26 ?_
        refine px_D_call (as := [.inr (.inr 5), .inl (q22), .inl (q24), .inl (q26)]) (rest := []) rfl rfl rfl rfl ?_
        obtain ⟨q27, hq27, h⟩ := Option.bind_eq_some_iff.mp h
        refine px_D_mono (c_R_set (d := d + 193) hq27) ?_
        rintro _ _ ⟨rfl, rfl⟩
        show px_D sc (d + 196) 282 73 [(0, .inr (.inr 1)), (1, .inr (.inr 5)), (2, .inr (.inr 150)), (3, .inl (x3))] [.inl (q27.1)] (px_G1, q27.2) _
        refine px_D_st 5 (ip1 := 78) (ls1 := [(0, .inr (.inr 1)), (1, .inr (.inr 5)), (2, .inr (.inr 150)), (3, .inl (x3))]) (st1 := [.inl (px_wr (x3 + 1)), .inr (.inr 1), .inr (.inr 150), .inl (q27.1)]) (h1 := (px_G1, q27.2)) rfl ?_
        by_cases hc28 : 0 ≤ (px_wr (x3 + 1))
        case neg => rw [if_neg hc28] at h; cases h
        rw [if_pos hc28] at h
        obtain ⟨q29, hq29, h⟩ := Option.bind_eq_some_iff.mp h
        refine px_D_sld (j := px_wr (x3 + 1)) rfl hc28 hq29 ?_
        refine px_D_st 4 (ip1 := 83) (ls1 := [(0, .inr (.inr 1)), (1, .inr (.inr 5)), (2, .inr (.inr 150)), (3, .inl (x3))]) (st1 := [.inl (px_wr (x3 + 2)), .inr (.inr 1), .inl (q29), .inr (.inr 150), .inl (q27.1)]) (h1 := (px_G1, q27.2)) rfl ?_
        by_cases hc30 : 0 ≤ (px_wr (x3 + 2))
        case neg => rw [if_neg hc30] at h; cases h
        rw [if_pos hc30] at h
        obtain ⟨q31, hq31, h⟩ := Option.bind_eq_some_iff.mp h
        refine px_D_sld (j := px_wr (x3 + 2)) rfl hc30 hq31 ?_
        refine px_D_st 4 (ip1 := 88) (ls1 := [(0, .inr (.inr 1)), (1, .inr (.inr 5)), (2, .inr (.inr 150)), (3, .inl (x3))]) (st1 := [.inl (px_wr (x3 + 3)), .inr (.inr 1), .inl (q31), .inl (q29), .inr (.inr 150), .inl (q27.1)]) (h1 := (px_G1, q27.2)) rfl ?_
        by_cases hc32 : 0 ≤ (px_wr (x3 + 3))
        case neg => rw [if_neg hc32] at h; cases h
        rw [if_pos hc32] at h
        obtain ⟨q33, hq33, h⟩ := Option.bind_eq_some_iff.mp h
        refine px_D_sld (j := px_wr (x3 + 3)) rfl hc32 hq33 ?_
        refine px_D_call (as := [.inr (.inr 150), .inl (q29), .inl (q31), .inl (q33)]) (rest := [.inl (q27.1)]) rfl rfl rfl rfl ?_
        obtain ⟨q34, hq34, h⟩ := Option.bind_eq_some_iff.mp h
        refine px_D_mono (c_M_set (d := d + 194) hq34) ?_
        rintro _ _ ⟨rfl, rfl⟩
        show px_D sc (d + 196) 282 90 [(0, .inr (.inr 1)), (1, .inr (.inr 5)), (2, .inr (.inr 150)), (3, .inl (x3))] [.inl (q34.1), .inl (q27.1)] (px_G1, q34.2) _
        refine px_D_icmp rfl (fun hc => ?_) (fun hc => ?_)
        · have hc35 : (q27.1) = (q34.1) := of_decide_eq_true hc
          rw [if_pos hc35] at h
          refine px_D_st 2 (ip1 := 10) (ls1 := [(3, .inl (px_wr (x3 + 6))), (0, .inr (.inr 1)), (1, .inr (.inr 5)), (2, .inr (.inr 150))]) (st1 := []) (h1 := (px_G1, q34.2)) rfl ?_
          refine px_D_ls [(0, .inr (.inr 1)), (1, .inr (.inr 5)), (2, .inr (.inr 150)), (3, .inl (px_wr (x3 + 6)))] rfl rfl (List.forall_mem_cons.mpr ⟨rfl, List.forall_mem_cons.mpr ⟨rfl, List.forall_mem_cons.mpr ⟨rfl, List.forall_mem_cons.mpr ⟨rfl, fun _ h => absurd h List.not_mem_nil⟩⟩⟩⟩) ?_
          exact ih _ _ _ h
        · have hc35 : ¬ ((q27.1) = (q34.1)) := of_decide_eq_false hc
          rw [if_neg hc35] at h
          refine px_D_st 1 (ip1 := 92) (ls1 := [(0, .inr (.inr 1)), (1, .inr (.inr 5)), (2, .inr (.inr 150)), (3, .inl (x3))]) (st1 := [.inl (0)]) (h1 := (px_G1, q34.2)) rfl ?_
          cases h
          exact px_D_iret rfl rfl ⟨rfl, rfl⟩
      rw [if_neg hc20] at h
      by_cases hc36 : (px_and (q3) (31)) = 3
      · rw [if_pos hc36] at h
        refine px_D_tsw (c := 3) rfl hc36 (by decide) rfl ?_
        refine px_D_st 5 (ip1 := 98) (ls1 := [(0, .inr (.inr 1)), (1, .inr (.inr 5)), (2, .inr (.inr 150)), (3, .inl (x3))]) (st1 := [.inl (px_wr (x3 + 1)), .inr (.inr 1), .inr (.inr 5)]) (h1 := (px_G1, s)) rfl ?_
        by_cases hc37 : 0 ≤ (px_wr (x3 + 1))
        case neg => rw [if_neg hc37] at h; cases h
        rw [if_pos hc37] at h
        obtain ⟨q38, hq38, h⟩ := Option.bind_eq_some_iff.mp h
        refine px_D_sld (j := px_wr (x3 + 1)) rfl hc37 hq38 ?_
        refine px_D_st 4 (ip1 := 103) (ls1 := [(0, .inr (.inr 1)), (1, .inr (.inr 5)), (2, .inr (.inr 150)), (3, .inl (x3))]) (st1 := [.inl (px_wr (x3 + 2)), .inr (.inr 1), .inl (q38), .inr (.inr 5)]) (h1 := (px_G1, s)) rfl ?_
        by_cases hc39 : 0 ≤ (px_wr (x3 + 2))
        case neg => rw [if_neg hc39] at h; cases h
        rw [if_pos hc39] at h
        obtain ⟨q40, hq40, h⟩ := Option.bind_eq_some_iff.mp h
        refine px_D_sld (j := px_wr (x3 + 2)) rfl hc39 hq40 ?_
        refine px_D_st 4 (ip1 := 108) (ls1 := [(0, .inr (.inr 1)), (1, .inr (.inr 5)), (2, .inr (.inr 150)), (3, .inl (x3))]) (st1 := [.inl (px_wr (x3 + 3)), .inr (.inr 1), .inl (q40), .inl (q38), .inr (.inr 5)]) (h1 := (px_G1, s)) rfl ?_
        by_cases hc41 : 0 ≤ (px_wr (x3 + 3))
        case neg => rw [if_neg hc41] at h; cases h
        rw [if_pos hc41] at h
        obtain ⟨q42, hq42, h⟩ := Option.bind_eq_some_iff.mp h
        refine px_D_sld (j := px_wr (x3 + 3)) rfl hc41 hq42 ?_
        refine px_D_st 4 (ip1 := 113) (ls1 := [(0, .inr (.inr 1)), (1, .inr (.inr 5)), (2, .inr (.inr 150)), (3, .inl (x3))]) (st1 := [.inl (px_wr (x3 + 4)), .inr (.inr 1), .inl (q42), .inl (q40), .inl (q38), .inr (.inr 5)]) (h1 := (px_G1, s)) rfl ?_
        by_cases hc43 : 0 ≤ (px_wr (x3 + 4))
        case neg => rw [if_neg hc43] at h; cases h
        rw [if_pos hc43] at h
        obtain ⟨q44, hq44, h⟩ := Option.bind_eq_some_iff.mp h
        refine px_D_sld (j := px_wr (x3 + 4)) rfl hc43 hq44 ?_
        refine px_D_st 4 (ip1 := 118) (ls1 := [(0, .inr (.inr 1)), (1, .inr (.inr 5)), (2, .inr (.inr 150)), (3, .inl (x3))]) (st1 := [.inl (px_wr (x3 + 5)), .inr (.inr 1), .inl (q44), .inl (q42), .inl (q40), .inl (q38), .inr (.inr 5)]) (h1 := (px_G1, s)) rfl ?_
        by_cases hc45 : 0 ≤ (px_wr (x3 + 5))
        case neg => rw [if_neg hc45] at h; cases h
        rw [if_pos hc45] at h
        obtain ⟨q46, hq46, h⟩ := Option.bind_eq_some_iff.mp h
        refine px_D_sld (j := px_wr (x3 + 5)) rfl hc45 hq46 ?_
        refine px_D_call (as := [.inr (.inr 5), .inl (q38), .inl (q40), .inl (q42), .inl (q44), .inl (q46)]) (rest := []) rfl rfl rfl rfl ?_
        obtain ⟨q47, hq47, h⟩ := Option.bind_eq_some_iff.mp h
        refine px_D_mono (c_R_feed (d := d + 194) hq47) ?_
        rintro _ _ ⟨rfl, rfl⟩
        show px_D sc (d + 196) 282 120 [(0, .inr (.inr 1)), (1, .inr (.inr 5)), (2, .inr (.inr 150)), (3, .inl (x3))] [.inl (q47.1)] (px_G1, q47.2) _
        refine px_D_st 5 (ip1 := 125) (ls1 := [(0, .inr (.inr 1)), (1, .inr (.inr 5)), (2, .inr (.inr 150)), (3, .inl (x3))]) (st1 := [.inl (px_wr (x3 + 1)), .inr (.inr 1), .inr (.inr 150), .inl (q47.1)]) (h1 := (px_G1, q47.2)) rfl ?_
        by_cases hc48 : 0 ≤ (px_wr (x3 + 1))
        case neg => rw [if_neg hc48] at h; cases h
        rw [if_pos hc48] at h
        obtain ⟨q49, hq49, h⟩ := Option.bind_eq_some_iff.mp h
        refine px_D_sld (j := px_wr (x3 + 1)) rfl hc48 hq49 ?_
        refine px_D_st 4 (ip1 := 130) (ls1 := [(0, .inr (.inr 1)), (1, .inr (.inr 5)), (2, .inr (.inr 150)), (3, .inl (x3))]) (st1 := [.inl (px_wr (x3 + 2)), .inr (.inr 1), .inl (q49), .inr (.inr 150), .inl (q47.1)]) (h1 := (px_G1, q47.2)) rfl ?_
        by_cases hc50 : 0 ≤ (px_wr (x3 + 2))
        case neg => rw [if_neg hc50] at h; cases h
        rw [if_pos hc50] at h
        obtain ⟨q51, hq51, h⟩ := Option.bind_eq_some_iff.mp h
        refine px_D_sld (j := px_wr (x3 + 2)) rfl hc50 hq51 ?_
        refine px_D_st 4 (ip1 := 135) (ls1 := [(0, .inr (.inr 1)), (1, .inr (.inr 5)), (2, .inr (.inr 150)), (3, .inl (x3))]) (st1 := [.inl (px_wr (x3 + 3)), .inr (.inr 1), .inl (q51), .inl (q49), .inr (.inr 150), .inl (q47.1)]) (h1 := (px_G1, q47.2)) rfl ?_
        by_cases hc52 : 0 ≤ (px_wr (x3 + 3))
        case neg => rw [if_neg hc52] at h; cases h
        rw [if_pos hc52] at h
        obtain ⟨q53, hq53, h⟩ := Option.bind_eq_some_iff.mp h
        refine px_D_sld (j := px_wr (x3 + 3)) rfl hc52 hq53 ?_
        refine px_D_st 4 (ip1 := 140) (ls1 := [(0, .inr (.inr 1)), (1, .inr (.inr 5)), (2, .inr (.inr 150)), (3, .inl (x3))]) (st1 := [.inl (px_wr (x3 + 4)), .inr (.inr 1), .inl (q53), .inl (q51), .inl (q49), .inr (.inr 150), .inl (q47.1)]) (h1 := (px_G1, q47.2)) rfl ?_
        by_cases hc54 : 0 ≤ (px_wr (x3 + 4))
        case neg => rw [if_neg hc54] at h; cases h
        rw [if_pos hc54] at h
        obtain ⟨q55, hq55, h⟩ := Option.bind_eq_some_iff.mp h
        refine px_D_sld (j := px_wr (x3 + 4)) rfl hc54 hq55 ?_
        refine px_D_st 4 (ip1 := 145) (ls1 := [(0, .inr (.inr 1)), (1, .inr (.inr 5)), (2, .inr (.inr 150)), (3, .inl (x3))]) (st1 := [.inl (px_wr (x3 + 5)), .inr (.inr 1), .inl (q55), .inl (q53), .inl (q51), .inl (q49), .inr (.inr 150), .inl (q47.1)]) (h1 := (px_G1, q47.2)) rfl ?_
        by_cases hc56 : 0 ≤ (px_wr (x3 + 5))
        case neg => rw [if_neg hc56] at h; cases h
        rw [if_pos hc56] at h
        obtain ⟨q57, hq57, h⟩ := Option.bind_eq_some_iff.mp h
        refine px_D_sld (j := px_wr (x3 + 5)) rfl hc56 hq57 ?_
        refine px_D_call (as := [.inr (.inr 150), .inl (q49), .inl (q51), .inl (q53), .inl (q55), .inl (q57)]) (rest := [.inl (q47.1)]) rfl rfl rfl rfl ?_
        obtain ⟨q58, hq58, h⟩ := Option.bind_eq_some_iff.mp h
        refine px_D_mono (c_M_feed (d := d + 194) hq58) ?_
        rintro _ _ ⟨rfl, rfl⟩
        show px_D sc (d + 196) 282 147 [(0, .inr (.inr 1)), (1, .inr (.inr 5)), (2, .inr (.inr 150)), (3, .inl (x3))] [.inl (q58.1), .inl (q47.1)] (px_G1, q58.2) _
        refine px_D_icmp rfl (fun hc => ?_) (fun hc => ?_)
        · have hc59 : (q47.1) = (q58.1) := of_decide_eq_true hc
          rw [if_pos hc59] at h
          refine px_D_st 2 (ip1 := 10) (ls1 := [(3, .inl (px_wr (x3 + 6))), (0, .inr (.inr 1)), (1, .inr (.inr 5)), (2, .inr (.inr 150))]) (st1 := []) (h1 := (px_G1, q58.2)) rfl ?_
          refine px_D_ls [(0, .inr (.inr 1)), (1, .inr (.inr 5)), (2, .inr (.inr 150)), (3, .inl (px_wr (x3 + 6)))] rfl rfl (List.forall_mem_cons.mpr ⟨rfl, List.forall_mem_cons.mpr ⟨rfl, List.forall_mem_cons.mpr ⟨rfl, List.forall_mem_cons.mpr ⟨rfl, fun _ h => absurd h List.not_mem_nil⟩⟩⟩⟩) ?_
          exact ih _ _ _ h
        · have hc59 : ¬ ((q47.1) = (q58.1)) := of_decide_eq_false hc
          rw [if_neg hc59] at h
          refine px_D_st 1 (ip1 := 149) (ls1 := [(0, .inr (.inr 1)), (1, .inr (.inr 5)), (2, .inr (.inr 150)), (3, .inl (x3))]) (st1 := [.inl (0)]) (h1 := (px_G1, q58.2)) rfl ?_
          cases h
          exact px_D_iret rfl rfl ⟨rfl, rfl⟩
      rw [if_neg hc36] at h
      by_cases hc60 : (px_and (q3) (31)) = 4
      · rw [if_pos hc60] at h
        refine px_D_tsw (c := 4) rfl hc60 (by decide) rfl ?_
        refine px_D_st 5 (ip1 := 155) (ls1 := [(0, .inr (.inr 1)), (1, .inr (.inr 5)), (2, .inr (.inr 150)), (3, .inl (x3))]) (st1 := [.inl (px_wr (x3 + 1)), .inr (.inr 1), .inr (.inr 5)]) (h1 := (px_G1, s)) rfl ?_
        by_cases hc61 : 0 ≤ (px_wr (x3 + 1))
        case neg => rw [if_neg hc61] at h; cases h
        rw [if_pos hc61] at h
        obtain ⟨q62, hq62, h⟩ := Option.bind_eq_some_iff.mp h
        refine px_D_sld (j := px_wr (x3 + 1)) rfl hc61 hq62 ?_
        refine px_D_call (as := [.inr (.inr 5), .inl (q62)]) (rest := []) rfl rfl rfl rfl ?_
        obtain ⟨q63, hq63, h⟩ := Option.bind_eq_some_iff.mp h
        refine px_D_mono (c_R_end (d := d + 194) hq63) ?_
        rintro _ _ ⟨rfl, rfl⟩
        show px_D sc (d + 196) 282 157 [(0, .inr (.inr 1)), (1, .inr (.inr 5)), (2, .inr (.inr 150)), (3, .inl (x3))] [.inl (q63.1)] (px_G1, q63.2) _
        refine px_D_st 5 (ip1 := 162) (ls1 := [(0, .inr (.inr 1)), (1, .inr (.inr 5)), (2, .inr (.inr 150)), (3, .inl (x3))]) (st1 := [.inl (px_wr (x3 + 1)), .inr (.inr 1), .inr (.inr 150), .inl (q63.1)]) (h1 := (px_G1, q63.2)) rfl ?_
        by_cases hc64 : 0 ≤ (px_wr (x3 + 1))
        case neg => rw [if_neg hc64] at h; cases h
        rw [if_pos hc64] at h
        obtain ⟨q65, hq65, h⟩ := Option.bind_eq_some_iff.mp h
        refine px_D_sld (j := px_wr (x3 + 1)) rfl hc64 hq65 ?_
        refine px_D_call (as := [.inr (.inr 150), .inl (q65)]) (rest := [.inl (q63.1)]) rfl rfl rfl rfl ?_
        obtain ⟨q66, hq66, h⟩ := Option.bind_eq_some_iff.mp h
        refine px_D_mono (c_M_end (d := d + 194) hq66) ?_
        rintro _ _ ⟨rfl, rfl⟩
        show px_D sc (d + 196) 282 164 [(0, .inr (.inr 1)), (1, .inr (.inr 5)), (2, .inr (.inr 150)), (3, .inl (x3))] [.inl (q66.1), .inl (q63.1)] (px_G1, q66.2) _
        refine px_D_icmp rfl (fun hc => ?_) (fun hc => ?_)
        · have hc67 : (q63.1) = (q66.1) := of_decide_eq_true hc
          rw [if_pos hc67] at h
          refine px_D_st 2 (ip1 := 10) (ls1 := [(3, .inl (px_wr (x3 + 6))), (0, .inr (.inr 1)), (1, .inr (.inr 5)), (2, .inr (.inr 150))]) (st1 := []) (h1 := (px_G1, q66.2)) rfl ?_
          refine px_D_ls [(0, .inr (.inr 1)), (1, .inr (.inr 5)), (2, .inr (.inr 150)), (3, .inl (px_wr (x3 + 6)))] rfl rfl (List.forall_mem_cons.mpr ⟨rfl, List.forall_mem_cons.mpr ⟨rfl, List.forall_mem_cons.mpr ⟨rfl, List.forall_mem_cons.mpr ⟨rfl, fun _ h => absurd h List.not_mem_nil⟩⟩⟩⟩) ?_
          exact ih _ _ _ h
        · have hc67 : ¬ ((q63.1) = (q66.1)) := of_decide_eq_false hc
          rw [if_neg hc67] at h
          refine px_D_st 1 (ip1 := 166) (ls1 := [(0, .inr (.inr 1)), (1, .inr (.inr 5)), (2, .inr (.inr 150)), (3, .inl (x3))]) (st1 := [.inl (0)]) (h1 := (px_G1, q66.2)) rfl ?_
          cases h
          exact px_D_iret rfl rfl ⟨rfl, rfl⟩
      rw [if_neg hc60] at h
      by_cases hc68 : (px_and (q3) (31)) = 5
      · rw [if_pos hc68] at h
        refine px_D_tsw (c := 5) rfl hc68 (by decide) rfl ?_
        refine px_D_st 5 (ip1 := 172) (ls1 := [(0, .inr (.inr 1)), (1, .inr (.inr 5)), (2, .inr (.inr 150)), (3, .inl (x3))]) (st1 := [.inl (px_wr (x3 + 1)), .inr (.inr 1), .inr (.inr 5)]) (h1 := (px_G1, s)) rfl ?_
        by_cases hc69 : 0 ≤ (px_wr (x3 + 1))
        case neg => rw [if_neg hc69] at h; cases h
        rw [if_pos hc69] at h
        obtain ⟨q70, hq70, h⟩ := Option.bind_eq_some_iff.mp h
        refine px_D_sld (j := px_wr (x3 + 1)) rfl hc69 hq70 ?_
        refine px_D_call (as := [.inr (.inr 5), .inl (q70)]) (rest := []) rfl rfl rfl rfl ?_
        obtain ⟨q71, hq71, h⟩ := Option.bind_eq_some_iff.mp h
        refine px_D_mono (c_R_text (d := d + 0) hq71) ?_
        rintro _ _ ⟨rfl, rfl⟩
        show px_D sc (d + 196) 282 174 [(0, .inr (.inr 1)), (1, .inr (.inr 5)), (2, .inr (.inr 150)), (3, .inl (x3))] [.inl (q71.1)] (px_G1, q71.2) _
        refine px_D_st 5 (ip1 := 179) (ls1 := [(0, .inr (.inr 1)), (1, .inr (.inr 5)), (2, .inr (.inr 150)), (3, .inl (x3))]) (st1 := [.inl (px_wr (x3 + 1)), .inr (.inr 1), .inr (.inr 150), .inl (q71.1)]) (h1 := (px_G1, q71.2)) rfl ?_
        by_cases hc72 : 0 ≤ (px_wr (x3 + 1))
        case neg => rw [if_neg hc72] at h; cases h
        rw [if_pos hc72] at h
        obtain ⟨q73, hq73, h⟩ := Option.bind_eq_some_iff.mp h
        refine px_D_sld (j := px_wr (x3 + 1)) rfl hc72 hq73 ?_
        refine px_D_call (as := [.inr (.inr 150), .inl (q73)]) (rest := [.inl (q71.1)]) rfl rfl rfl rfl ?_
        obtain ⟨q74, hq74, h⟩ := Option.bind_eq_some_iff.mp h
        refine px_D_mono (c_M_text (d := d + 185) hq74) ?_
        rintro _ _ ⟨rfl, rfl⟩
        show px_D sc (d + 196) 282 181 [(0, .inr (.inr 1)), (1, .inr (.inr 5)), (2, .inr (.inr 150)), (3, .inl (x3))] [.inl (q74.1), .inl (q71.1)] (px_G1, q74.2) _
        refine px_D_icmp rfl (fun hc => ?_) (fun hc => ?_)
        · have hc75 : (q71.1) = (q74.1) := of_decide_eq_true hc
          rw [if_pos hc75] at h
          refine px_D_st 2 (ip1 := 10) (ls1 := [(3, .inl (px_wr (x3 + 6))), (0, .inr (.inr 1)), (1, .inr (.inr 5)), (2, .inr (.inr 150))]) (st1 := []) (h1 := (px_G1, q74.2)) rfl ?_
          refine px_D_ls [(0, .inr (.inr 1)), (1, .inr (.inr 5)), (2, .inr (.inr 150)), (3, .inl (px_wr (x3 + 6)))] rfl rfl (List.forall_mem_cons.mpr ⟨rfl, List.forall_mem_cons.mpr ⟨rfl, List.forall_mem_cons.mpr ⟨rfl, List.forall_mem_cons.mpr ⟨rfl, fun _ h => absurd h List.not_mem_nil⟩⟩⟩⟩) ?_
          exact ih _ _ _ h
        · have hc75 : ¬ ((q71.1) = (q74.1)) := of_decide_eq_false hc
          rw [if_neg hc75] at h
          refine px_D_st 1 (ip1 := 183) (ls1 := [(0, .inr (.inr 1)), (1, .inr (.inr 5)), (2, .inr (.inr 150)), (3, .inl (x3))]) (st1 := [.inl (0)]) (h1 := (px_G1, q74.2)) rfl ?_
          cases h
          exact px_D_iret rfl rfl ⟨rfl, rfl⟩
      rw [if_neg hc68] at h
      by_cases hc76 : (px_and (q3) (31)) = 6
      · rw [if_pos hc76] at h
        refine px_D_tsw (c := 6) rfl hc76 (by decide) rfl ?_
        refine px_D_st 5 (ip1 := 189) (ls1 := [(0, .inr (.inr 1)), (1, .inr (.inr 5)), (2, .inr (.inr 150)), (3, .inl (x3))]) (st1 := [.inl (px_wr (x3 + 1)), .inr (.inr 1), .inr (.inr 5)]) (h1 := (px_G1, s)) rfl ?_
        by_cases hc77 : 0 ≤ (px_wr (x3 + 1))
        case neg => rw [if_neg hc77] at h; cases h
        rw [if_pos hc77] at h
        obtain ⟨q78, hq78, h⟩ := Option.bind_eq_some_iff.mp h
        refine px_D_sld (j := px_wr (x3 + 1)) rfl hc77 hq78 ?_
        refine px_D_call (as := [.inr (.inr 5), .inl (q78)]) (rest := []) rfl rfl rfl rfl ?_
        refine px_D_mono (c_R_fault (d := d + 195) rfl) ?_
        rintro _ _ ⟨rfl, rfl⟩
        show px_D sc (d + 196) 282 191 [(0, .inr (.inr 1)), (1, .inr (.inr 5)), (2, .inr (.inr 150)), (3, .inl (x3))] [.inl (f_R_fault s q78)] (px_G1, s) _
        refine px_D_st 5 (ip1 := 196) (ls1 := [(0, .inr (.inr 1)), (1, .inr (.inr 5)), (2, .inr (.inr 150)), (3, .inl (x3))]) (st1 := [.inl (px_wr (x3 + 1)), .inr (.inr 1), .inr (.inr 150), .inl (f_R_fault s q78)]) (h1 := (px_G1, s)) rfl ?_
        by_cases hc79 : 0 ≤ (px_wr (x3 + 1))
        case neg => rw [if_neg hc79] at h; cases h
        rw [if_pos hc79] at h
        obtain ⟨q80, hq80, h⟩ := Option.bind_eq_some_iff.mp h
        refine px_D_sld (j := px_wr (x3 + 1)) rfl hc79 hq80 ?_
        refine px_D_call (as := [.inr (.inr 150), .inl (q80)]) (rest := [.inl (f_R_fault s q78)]) rfl rfl rfl rfl ?_
        obtain ⟨q81, hq81, h⟩ := Option.bind_eq_some_iff.mp h
        refine px_D_mono (c_M_fault (d := d + 195) hq81) ?_
        rintro _ _ ⟨rfl, rfl⟩
        show px_D sc (d + 196) 282 198 [(0, .inr (.inr 1)), (1, .inr (.inr 5)), (2, .inr (.inr 150)), (3, .inl (x3))] [.inl (q81.1), .inl (f_R_fault s q78)] (px_G1, q81.2) _
        refine px_D_icmp rfl (fun hc => ?_) (fun hc => ?_)
        · have hc82 : (f_R_fault s q78) = (q81.1) := of_decide_eq_true hc
          rw [if_pos hc82] at h
          refine px_D_st 2 (ip1 := 10) (ls1 := [(3, .inl (px_wr (x3 + 6))), (0, .inr (.inr 1)), (1, .inr (.inr 5)), (2, .inr (.inr 150))]) (st1 := []) (h1 := (px_G1, q81.2)) rfl ?_
          refine px_D_ls [(0, .inr (.inr 1)), (1, .inr (.inr 5)), (2, .inr (.inr 150)), (3, .inl (px_wr (x3 + 6)))] rfl rfl (List.forall_mem_cons.mpr ⟨rfl, List.forall_mem_cons.mpr ⟨rfl, List.forall_mem_cons.mpr ⟨rfl, List.forall_mem_cons.mpr ⟨rfl, fun _ h => absurd h List.not_mem_nil⟩⟩⟩⟩) ?_
          exact ih _ _ _ h
        · have hc82 : ¬ ((f_R_fault s q78) = (q81.1)) := of_decide_eq_false hc
          rw [if_neg hc82] at h
          refine px_D_st 1 (ip1 := 200) (ls1 := [(0, .inr (.inr 1)), (1, .inr (.inr 5)), (2, .inr (.inr 150)), (3, .inl (x3))]) (st1 := [.inl (0)]) (h1 := (px_G1, q81.2)) rfl ?_
          cases h
          exact px_D_iret rfl rfl ⟨rfl, rfl⟩
      rw [if_neg hc76] at h
      by_cases hc83 : (px_and (q3) (31)) = 7
      · rw [if_pos hc83] at h
        refine px_D_tsw (c := 7) rfl hc83 (by decide) rfl ?_
        refine px_D_st 5 (ip1 := 206) (ls1 := [(0, .inr (.inr 1)), (1, .inr (.inr 5)), (2, .inr (.inr 150)), (3, .inl (x3))]) (st1 := [.inl (px_wr (x3 + 1)), .inr (.inr 1), .inr (.inr 5)]) (h1 := (px_G1, s)) rfl ?_
        by_cases hc84 : 0 ≤ (px_wr (x3 + 1))
        case neg => rw [if_neg hc84] at h; cases h
        rw [if_pos hc84] at h
        obtain ⟨q85, hq85, h⟩ := Option.bind_eq_some_iff.mp h
        refine px_D_sld (j := px_wr (x3 + 1)) rfl hc84 hq85 ?_
        refine px_D_st 4 (ip1 := 211) (ls1 := [(0, .inr (.inr 1)), (1, .inr (.inr 5)), (2, .inr (.inr 150)), (3, .inl (x3))]) (st1 := [.inl (px_wr (x3 + 2)), .inr (.inr 1), .inl (q85), .inr (.inr 5)]) (h1 := (px_G1, s)) rfl ?_
        by_cases hc86 : 0 ≤ (px_wr (x3 + 2))
        case neg => rw [if_neg hc86] at h; cases h
        rw [if_pos hc86] at h
        obtain ⟨q87, hq87, h⟩ := Option.bind_eq_some_iff.mp h
        refine px_D_sld (j := px_wr (x3 + 2)) rfl hc86 hq87 ?_
        refine px_D_call (as := [.inr (.inr 5), .inl (q85), .inl (q87)]) (rest := []) rfl rfl rfl rfl ?_
        obtain ⟨q88, hq88, h⟩ := Option.bind_eq_some_iff.mp h
        refine px_D_mono (c_R_pay (d := d + 189) hq88) ?_
        rintro _ _ ⟨rfl, rfl⟩
        show px_D sc (d + 196) 282 213 [(0, .inr (.inr 1)), (1, .inr (.inr 5)), (2, .inr (.inr 150)), (3, .inl (x3))] [.inl (q88.1)] (px_G1, q88.2) _
        refine px_D_st 5 (ip1 := 218) (ls1 := [(0, .inr (.inr 1)), (1, .inr (.inr 5)), (2, .inr (.inr 150)), (3, .inl (x3))]) (st1 := [.inl (px_wr (x3 + 1)), .inr (.inr 1), .inr (.inr 150), .inl (q88.1)]) (h1 := (px_G1, q88.2)) rfl ?_
        by_cases hc89 : 0 ≤ (px_wr (x3 + 1))
        case neg => rw [if_neg hc89] at h; cases h
        rw [if_pos hc89] at h
        obtain ⟨q90, hq90, h⟩ := Option.bind_eq_some_iff.mp h
        refine px_D_sld (j := px_wr (x3 + 1)) rfl hc89 hq90 ?_
        refine px_D_st 4 (ip1 := 223) (ls1 := [(0, .inr (.inr 1)), (1, .inr (.inr 5)), (2, .inr (.inr 150)), (3, .inl (x3))]) (st1 := [.inl (px_wr (x3 + 2)), .inr (.inr 1), .inl (q90), .inr (.inr 150), .inl (q88.1)]) (h1 := (px_G1, q88.2)) rfl ?_
        by_cases hc91 : 0 ≤ (px_wr (x3 + 2))
        case neg => rw [if_neg hc91] at h; cases h
        rw [if_pos hc91] at h
        obtain ⟨q92, hq92, h⟩ := Option.bind_eq_some_iff.mp h
        refine px_D_sld (j := px_wr (x3 + 2)) rfl hc91 hq92 ?_
        refine px_D_call (as := [.inr (.inr 150), .inl (q90), .inl (q92)]) (rest := [.inl (q88.1)]) rfl rfl rfl rfl ?_
        obtain ⟨q93, hq93, h⟩ := Option.bind_eq_some_iff.mp h
        refine px_D_mono (c_M_pay (d := d + 188) hq93) ?_
        rintro _ _ ⟨rfl, rfl⟩
        show px_D sc (d + 196) 282 225 [(0, .inr (.inr 1)), (1, .inr (.inr 5)), (2, .inr (.inr 150)), (3, .inl (x3))] [.inl (q93.1), .inl (q88.1)] (px_G1, q93.2) _
        refine px_D_icmp rfl (fun hc => ?_) (fun hc => ?_)
        · have hc94 : (q88.1) = (q93.1) := of_decide_eq_true hc
          rw [if_pos hc94] at h
          refine px_D_st 2 (ip1 := 10) (ls1 := [(3, .inl (px_wr (x3 + 6))), (0, .inr (.inr 1)), (1, .inr (.inr 5)), (2, .inr (.inr 150))]) (st1 := []) (h1 := (px_G1, q93.2)) rfl ?_
          refine px_D_ls [(0, .inr (.inr 1)), (1, .inr (.inr 5)), (2, .inr (.inr 150)), (3, .inl (px_wr (x3 + 6)))] rfl rfl (List.forall_mem_cons.mpr ⟨rfl, List.forall_mem_cons.mpr ⟨rfl, List.forall_mem_cons.mpr ⟨rfl, List.forall_mem_cons.mpr ⟨rfl, fun _ h => absurd h List.not_mem_nil⟩⟩⟩⟩) ?_
          exact ih _ _ _ h
        · have hc94 : ¬ ((q88.1) = (q93.1)) := of_decide_eq_false hc
          rw [if_neg hc94] at h
          refine px_D_st 1 (ip1 := 227) (ls1 := [(0, .inr (.inr 1)), (1, .inr (.inr 5)), (2, .inr (.inr 150)), (3, .inl (x3))]) (st1 := [.inl (0)]) (h1 := (px_G1, q93.2)) rfl ?_
          cases h
          exact px_D_iret rfl rfl ⟨rfl, rfl⟩
      rw [if_neg hc83] at h
      by_cases hc95 : (px_and (q3) (31)) = 8
      · rw [if_pos hc95] at h
        refine px_D_tsw (c := 8) rfl hc95 (by decide) rfl ?_
        refine px_D_st 5 (ip1 := 233) (ls1 := [(0, .inr (.inr 1)), (1, .inr (.inr 5)), (2, .inr (.inr 150)), (3, .inl (x3))]) (st1 := [.inl (px_wr (x3 + 1)), .inr (.inr 1), .inr (.inr 5)]) (h1 := (px_G1, s)) rfl ?_
        by_cases hc96 : 0 ≤ (px_wr (x3 + 1))
        case neg => rw [if_neg hc96] at h; cases h
        rw [if_pos hc96] at h
        obtain ⟨q97, hq97, h⟩ := Option.bind_eq_some_iff.mp h
        refine px_D_sld (j := px_wr (x3 + 1)) rfl hc96 hq97 ?_
        refine px_D_call (as := [.inr (.inr 5), .inl (q97)]) (rest := []) rfl rfl rfl rfl ?_
        obtain ⟨q98, hq98, h⟩ := Option.bind_eq_some_iff.mp h
        refine px_D_mono (c_R_cry (d := d + 192) hq98) ?_
        rintro _ _ ⟨rfl, rfl⟩
        show px_D sc (d + 196) 282 235 [(0, .inr (.inr 1)), (1, .inr (.inr 5)), (2, .inr (.inr 150)), (3, .inl (x3))] [.inl (q98.1)] (px_G1, q98.2) _
        refine px_D_st 5 (ip1 := 240) (ls1 := [(0, .inr (.inr 1)), (1, .inr (.inr 5)), (2, .inr (.inr 150)), (3, .inl (x3))]) (st1 := [.inl (px_wr (x3 + 1)), .inr (.inr 1), .inr (.inr 150), .inl (q98.1)]) (h1 := (px_G1, q98.2)) rfl ?_
        by_cases hc99 : 0 ≤ (px_wr (x3 + 1))
        case neg => rw [if_neg hc99] at h; cases h
        rw [if_pos hc99] at h
        obtain ⟨q100, hq100, h⟩ := Option.bind_eq_some_iff.mp h
        refine px_D_sld (j := px_wr (x3 + 1)) rfl hc99 hq100 ?_
        refine px_D_call (as := [.inr (.inr 150), .inl (q100)]) (rest := [.inl (q98.1)]) rfl rfl rfl rfl ?_
        obtain ⟨q101, hq101, h⟩ := Option.bind_eq_some_iff.mp h
        refine px_D_mono (c_M_cry (d := d + 193) hq101) ?_
        rintro _ _ ⟨rfl, rfl⟩
        show px_D sc (d + 196) 282 242 [(0, .inr (.inr 1)), (1, .inr (.inr 5)), (2, .inr (.inr 150)), (3, .inl (x3))] [.inl (q101.1), .inl (q98.1)] (px_G1, q101.2) _
        refine px_D_icmp rfl (fun hc => ?_) (fun hc => ?_)
        · have hc102 : (q98.1) = (q101.1) := of_decide_eq_true hc
          rw [if_pos hc102] at h
          refine px_D_st 2 (ip1 := 10) (ls1 := [(3, .inl (px_wr (x3 + 6))), (0, .inr (.inr 1)), (1, .inr (.inr 5)), (2, .inr (.inr 150))]) (st1 := []) (h1 := (px_G1, q101.2)) rfl ?_
          refine px_D_ls [(0, .inr (.inr 1)), (1, .inr (.inr 5)), (2, .inr (.inr 150)), (3, .inl (px_wr (x3 + 6)))] rfl rfl (List.forall_mem_cons.mpr ⟨rfl, List.forall_mem_cons.mpr ⟨rfl, List.forall_mem_cons.mpr ⟨rfl, List.forall_mem_cons.mpr ⟨rfl, fun _ h => absurd h List.not_mem_nil⟩⟩⟩⟩) ?_
          exact ih _ _ _ h
        · have hc102 : ¬ ((q98.1) = (q101.1)) := of_decide_eq_false hc
          rw [if_neg hc102] at h
          refine px_D_st 1 (ip1 := 244) (ls1 := [(0, .inr (.inr 1)), (1, .inr (.inr 5)), (2, .inr (.inr 150)), (3, .inl (x3))]) (st1 := [.inl (0)]) (h1 := (px_G1, q101.2)) rfl ?_
          cases h
          exact px_D_iret rfl rfl ⟨rfl, rfl⟩
      rw [if_neg hc95] at h
      by_cases hc103 : (px_and (q3) (31)) = 9
      · rw [if_pos hc103] at h
        refine px_D_tsw (c := 9) rfl hc103 (by decide) rfl ?_
        refine px_D_st 5 (ip1 := 250) (ls1 := [(0, .inr (.inr 1)), (1, .inr (.inr 5)), (2, .inr (.inr 150)), (3, .inl (x3))]) (st1 := [.inl (px_wr (x3 + 1)), .inr (.inr 1), .inr (.inr 5)]) (h1 := (px_G1, s)) rfl ?_
        by_cases hc104 : 0 ≤ (px_wr (x3 + 1))
        case neg => rw [if_neg hc104] at h; cases h
        rw [if_pos hc104] at h
        obtain ⟨q105, hq105, h⟩ := Option.bind_eq_some_iff.mp h
        refine px_D_sld (j := px_wr (x3 + 1)) rfl hc104 hq105 ?_
        refine px_D_call (as := [.inr (.inr 5), .inl (q105)]) (rest := []) rfl rfl rfl rfl ?_
        obtain ⟨q106, hq106, h⟩ := Option.bind_eq_some_iff.mp h
        refine px_D_mono (c_R_weeks (d := d + 189) hq106) ?_
        rintro _ _ ⟨rfl, rfl⟩
        show px_D sc (d + 196) 282 252 [(0, .inr (.inr 1)), (1, .inr (.inr 5)), (2, .inr (.inr 150)), (3, .inl (x3))] [.inl (q106.1)] (px_G1, q106.2) _
        refine px_D_st 5 (ip1 := 257) (ls1 := [(0, .inr (.inr 1)), (1, .inr (.inr 5)), (2, .inr (.inr 150)), (3, .inl (x3))]) (st1 := [.inl (px_wr (x3 + 1)), .inr (.inr 1), .inr (.inr 150), .inl (q106.1)]) (h1 := (px_G1, q106.2)) rfl ?_
        by_cases hc107 : 0 ≤ (px_wr (x3 + 1))
        case neg => rw [if_neg hc107] at h; cases h
        rw [if_pos hc107] at h
        obtain ⟨q108, hq108, h⟩ := Option.bind_eq_some_iff.mp h
        refine px_D_sld (j := px_wr (x3 + 1)) rfl hc107 hq108 ?_
        refine px_D_call (as := [.inr (.inr 150), .inl (q108)]) (rest := [.inl (q106.1)]) rfl rfl rfl rfl ?_
        obtain ⟨q109, hq109, h⟩ := Option.bind_eq_some_iff.mp h
        refine px_D_mono (c_M_weeks (d := d + 189) hq109) ?_
        rintro _ _ ⟨rfl, rfl⟩
        show px_D sc (d + 196) 282 259 [(0, .inr (.inr 1)), (1, .inr (.inr 5)), (2, .inr (.inr 150)), (3, .inl (x3))] [.inl (q109.1), .inl (q106.1)] (px_G1, q109.2) _
        refine px_D_icmp rfl (fun hc => ?_) (fun hc => ?_)
        · have hc110 : (q106.1) = (q109.1) := of_decide_eq_true hc
          rw [if_pos hc110] at h
          refine px_D_st 2 (ip1 := 10) (ls1 := [(3, .inl (px_wr (x3 + 6))), (0, .inr (.inr 1)), (1, .inr (.inr 5)), (2, .inr (.inr 150))]) (st1 := []) (h1 := (px_G1, q109.2)) rfl ?_
          refine px_D_ls [(0, .inr (.inr 1)), (1, .inr (.inr 5)), (2, .inr (.inr 150)), (3, .inl (px_wr (x3 + 6)))] rfl rfl (List.forall_mem_cons.mpr ⟨rfl, List.forall_mem_cons.mpr ⟨rfl, List.forall_mem_cons.mpr ⟨rfl, List.forall_mem_cons.mpr ⟨rfl, fun _ h => absurd h List.not_mem_nil⟩⟩⟩⟩) ?_
          exact ih _ _ _ h
        · have hc110 : ¬ ((q106.1) = (q109.1)) := of_decide_eq_false hc
          rw [if_neg hc110] at h
          refine px_D_st 1 (ip1 := 261) (ls1 := [(0, .inr (.inr 1)), (1, .inr (.inr 5)), (2, .inr (.inr 150)), (3, .inl (x3))]) (st1 := [.inl (0)]) (h1 := (px_G1, q109.2)) rfl ?_
          cases h
          exact px_D_iret rfl rfl ⟨rfl, rfl⟩
      rw [if_neg hc103] at h
      by_cases hc111 : (px_and (q3) (31)) = 10
      · rw [if_pos hc111] at h
        refine px_D_tsw (c := 10) rfl hc111 (by decide) rfl ?_
        refine px_D_st 1 (ip1 := 263) (ls1 := [(0, .inr (.inr 1)), (1, .inr (.inr 5)), (2, .inr (.inr 150)), (3, .inl (x3))]) (st1 := [.inr (.inr 5)]) (h1 := (px_G1, s)) rfl ?_
        refine px_D_call (as := [.inr (.inr 5)]) (rest := []) rfl rfl rfl rfl ?_
        obtain ⟨q112, hq112, h⟩ := Option.bind_eq_some_iff.mp h
        refine px_D_mono (c_R_goes (d := d + 188) hq112) ?_
        rintro _ _ ⟨rfl, rfl⟩
        show px_D sc (d + 196) 282 264 [(0, .inr (.inr 1)), (1, .inr (.inr 5)), (2, .inr (.inr 150)), (3, .inl (x3))] [.inl (q112.1)] (px_G1, q112.2) _
        refine px_D_st 1 (ip1 := 265) (ls1 := [(0, .inr (.inr 1)), (1, .inr (.inr 5)), (2, .inr (.inr 150)), (3, .inl (x3))]) (st1 := [.inr (.inr 150), .inl (q112.1)]) (h1 := (px_G1, q112.2)) rfl ?_
        refine px_D_call (as := [.inr (.inr 150)]) (rest := [.inl (q112.1)]) rfl rfl rfl rfl ?_
        obtain ⟨q113, hq113, h⟩ := Option.bind_eq_some_iff.mp h
        refine px_D_mono (c_M_goes (d := d + 187) hq113) ?_
        rintro _ _ ⟨rfl, rfl⟩
        show px_D sc (d + 196) 282 266 [(0, .inr (.inr 1)), (1, .inr (.inr 5)), (2, .inr (.inr 150)), (3, .inl (x3))] [.inl (q113.1), .inl (q112.1)] (px_G1, q113.2) _
        refine px_D_icmp rfl (fun hc => ?_) (fun hc => ?_)
        · have hc114 : (q112.1) = (q113.1) := of_decide_eq_true hc
          rw [if_pos hc114] at h
          refine px_D_st 2 (ip1 := 10) (ls1 := [(3, .inl (px_wr (x3 + 6))), (0, .inr (.inr 1)), (1, .inr (.inr 5)), (2, .inr (.inr 150))]) (st1 := []) (h1 := (px_G1, q113.2)) rfl ?_
          refine px_D_ls [(0, .inr (.inr 1)), (1, .inr (.inr 5)), (2, .inr (.inr 150)), (3, .inl (px_wr (x3 + 6)))] rfl rfl (List.forall_mem_cons.mpr ⟨rfl, List.forall_mem_cons.mpr ⟨rfl, List.forall_mem_cons.mpr ⟨rfl, List.forall_mem_cons.mpr ⟨rfl, fun _ h => absurd h List.not_mem_nil⟩⟩⟩⟩) ?_
          exact ih _ _ _ h
        · have hc114 : ¬ ((q112.1) = (q113.1)) := of_decide_eq_false hc
          rw [if_neg hc114] at h
          refine px_D_st 1 (ip1 := 268) (ls1 := [(0, .inr (.inr 1)), (1, .inr (.inr 5)), (2, .inr (.inr 150)), (3, .inl (x3))]) (st1 := [.inl (0)]) (h1 := (px_G1, q113.2)) rfl ?_
          cases h
          exact px_D_iret rfl rfl ⟨rfl, rfl⟩
      rw [if_neg hc111] at h
      by_cases hc115 : (px_and (q3) (31)) = 11
      · rw [if_pos hc115] at h
        refine px_D_tsw (c := 11) rfl hc115 (by decide) rfl ?_
        refine px_D_st 5 (ip1 := 274) (ls1 := [(0, .inr (.inr 1)), (1, .inr (.inr 5)), (2, .inr (.inr 150)), (3, .inl (x3))]) (st1 := [.inl (px_wr (x3 + 1)), .inr (.inr 1), .inr (.inr 5)]) (h1 := (px_G1, s)) rfl ?_
        by_cases hc116 : 0 ≤ (px_wr (x3 + 1))
        case neg => rw [if_neg hc116] at h; cases h
        rw [if_pos hc116] at h
        obtain ⟨q117, hq117, h⟩ := Option.bind_eq_some_iff.mp h
        refine px_D_sld (j := px_wr (x3 + 1)) rfl hc116 hq117 ?_
        refine px_D_st 4 (ip1 := 279) (ls1 := [(0, .inr (.inr 1)), (1, .inr (.inr 5)), (2, .inr (.inr 150)), (3, .inl (x3))]) (st1 := [.inl (px_wr (x3 + 2)), .inr (.inr 1), .inl (q117), .inr (.inr 5)]) (h1 := (px_G1, s)) rfl ?_
        by_cases hc118 : 0 ≤ (px_wr (x3 + 2))
        case neg => rw [if_neg hc118] at h; cases h
        rw [if_pos hc118] at h
        obtain ⟨q119, hq119, h⟩ := Option.bind_eq_some_iff.mp h
        refine px_D_sld (j := px_wr (x3 + 2)) rfl hc118 hq119 ?_
        refine px_D_call (as := [.inr (.inr 5), .inl (q117), .inl (q119)]) (rest := []) rfl rfl rfl rfl ?_
        obtain ⟨q120, hq120, h⟩ := Option.bind_eq_some_iff.mp h
        refine px_D_mono (c_R_of (d := d + 190) hq120) ?_
        rintro _ _ ⟨rfl, rfl⟩
        show px_D sc (d + 196) 282 281 [(0, .inr (.inr 1)), (1, .inr (.inr 5)), (2, .inr (.inr 150)), (3, .inl (x3))] [.inl (q120.1)] (px_G1, q120.2) _
        refine px_D_st 5 (ip1 := 286) (ls1 := [(0, .inr (.inr 1)), (1, .inr (.inr 5)), (2, .inr (.inr 150)), (3, .inl (x3))]) (st1 := [.inl (px_wr (x3 + 1)), .inr (.inr 1), .inr (.inr 150), .inl (q120.1)]) (h1 := (px_G1, q120.2)) rfl ?_
        by_cases hc121 : 0 ≤ (px_wr (x3 + 1))
        case neg => rw [if_neg hc121] at h; cases h
        rw [if_pos hc121] at h
        obtain ⟨q122, hq122, h⟩ := Option.bind_eq_some_iff.mp h
        refine px_D_sld (j := px_wr (x3 + 1)) rfl hc121 hq122 ?_
        refine px_D_st 4 (ip1 := 291) (ls1 := [(0, .inr (.inr 1)), (1, .inr (.inr 5)), (2, .inr (.inr 150)), (3, .inl (x3))]) (st1 := [.inl (px_wr (x3 + 2)), .inr (.inr 1), .inl (q122), .inr (.inr 150), .inl (q120.1)]) (h1 := (px_G1, q120.2)) rfl ?_
        by_cases hc123 : 0 ≤ (px_wr (x3 + 2))
        case neg => rw [if_neg hc123] at h; cases h
        rw [if_pos hc123] at h
        obtain ⟨q124, hq124, h⟩ := Option.bind_eq_some_iff.mp h
        refine px_D_sld (j := px_wr (x3 + 2)) rfl hc123 hq124 ?_
        refine px_D_call (as := [.inr (.inr 150), .inl (q122), .inl (q124)]) (rest := [.inl (q120.1)]) rfl rfl rfl rfl ?_
        obtain ⟨q125, hq125, h⟩ := Option.bind_eq_some_iff.mp h
        refine px_D_mono (c_M_of (d := d + 189) hq125) ?_
        rintro _ _ ⟨rfl, rfl⟩
        show px_D sc (d + 196) 282 293 [(0, .inr (.inr 1)), (1, .inr (.inr 5)), (2, .inr (.inr 150)), (3, .inl (x3))] [.inl (q125.1), .inl (q120.1)] (px_G1, q125.2) _
        refine px_D_icmp rfl (fun hc => ?_) (fun hc => ?_)
        · have hc126 : (q120.1) = (q125.1) := of_decide_eq_true hc
          rw [if_pos hc126] at h
          refine px_D_st 2 (ip1 := 10) (ls1 := [(3, .inl (px_wr (x3 + 6))), (0, .inr (.inr 1)), (1, .inr (.inr 5)), (2, .inr (.inr 150))]) (st1 := []) (h1 := (px_G1, q125.2)) rfl ?_
          refine px_D_ls [(0, .inr (.inr 1)), (1, .inr (.inr 5)), (2, .inr (.inr 150)), (3, .inl (px_wr (x3 + 6)))] rfl rfl (List.forall_mem_cons.mpr ⟨rfl, List.forall_mem_cons.mpr ⟨rfl, List.forall_mem_cons.mpr ⟨rfl, List.forall_mem_cons.mpr ⟨rfl, fun _ h => absurd h List.not_mem_nil⟩⟩⟩⟩) ?_
          exact ih _ _ _ h
        · have hc126 : ¬ ((q120.1) = (q125.1)) := of_decide_eq_false hc
          rw [if_neg hc126] at h
          refine px_D_st 1 (ip1 := 295) (ls1 := [(0, .inr (.inr 1)), (1, .inr (.inr 5)), (2, .inr (.inr 150)), (3, .inl (x3))]) (st1 := [.inl (0)]) (h1 := (px_G1, q125.2)) rfl ?_
          cases h
          exact px_D_iret rfl rfl ⟨rfl, rfl⟩
      rw [if_neg hc115] at h
      by_cases hc127 : (px_and (q3) (31)) = 12
      · rw [if_pos hc127] at h
        refine px_D_tsw (c := 12) rfl hc127 (by decide) rfl ?_
        refine px_D_st 5 (ip1 := 301) (ls1 := [(0, .inr (.inr 1)), (1, .inr (.inr 5)), (2, .inr (.inr 150)), (3, .inl (x3))]) (st1 := [.inl (px_wr (x3 + 1)), .inr (.inr 1), .inr (.inr 5)]) (h1 := (px_G1, s)) rfl ?_
        by_cases hc128 : 0 ≤ (px_wr (x3 + 1))
        case neg => rw [if_neg hc128] at h; cases h
        rw [if_pos hc128] at h
        obtain ⟨q129, hq129, h⟩ := Option.bind_eq_some_iff.mp h
        refine px_D_sld (j := px_wr (x3 + 1)) rfl hc128 hq129 ?_
        refine px_D_st 4 (ip1 := 306) (ls1 := [(0, .inr (.inr 1)), (1, .inr (.inr 5)), (2, .inr (.inr 150)), (3, .inl (x3))]) (st1 := [.inl (px_wr (x3 + 2)), .inr (.inr 1), .inl (q129), .inr (.inr 5)]) (h1 := (px_G1, s)) rfl ?_
        by_cases hc130 : 0 ≤ (px_wr (x3 + 2))
        case neg => rw [if_neg hc130] at h; cases h
        rw [if_pos hc130] at h
        obtain ⟨q131, hq131, h⟩ := Option.bind_eq_some_iff.mp h
        refine px_D_sld (j := px_wr (x3 + 2)) rfl hc130 hq131 ?_
        refine px_D_call (as := [.inr (.inr 5), .inl (q129), .inl (q131)]) (rest := []) rfl rfl rfl rfl ?_
        obtain ⟨q132, hq132, h⟩ := Option.bind_eq_some_iff.mp h
        refine px_D_mono (c_R_mud (d := d + 193) hq132) ?_
        rintro _ _ ⟨rfl, rfl⟩
        show px_D sc (d + 196) 282 308 [(0, .inr (.inr 1)), (1, .inr (.inr 5)), (2, .inr (.inr 150)), (3, .inl (x3))] [.inl (q132)] (px_G1, s) _
        refine px_D_st 5 (ip1 := 313) (ls1 := [(0, .inr (.inr 1)), (1, .inr (.inr 5)), (2, .inr (.inr 150)), (3, .inl (x3))]) (st1 := [.inl (px_wr (x3 + 1)), .inr (.inr 1), .inr (.inr 150), .inl (q132)]) (h1 := (px_G1, s)) rfl ?_
        by_cases hc133 : 0 ≤ (px_wr (x3 + 1))
        case neg => rw [if_neg hc133] at h; cases h
        rw [if_pos hc133] at h
        obtain ⟨q134, hq134, h⟩ := Option.bind_eq_some_iff.mp h
        refine px_D_sld (j := px_wr (x3 + 1)) rfl hc133 hq134 ?_
        refine px_D_st 4 (ip1 := 318) (ls1 := [(0, .inr (.inr 1)), (1, .inr (.inr 5)), (2, .inr (.inr 150)), (3, .inl (x3))]) (st1 := [.inl (px_wr (x3 + 2)), .inr (.inr 1), .inl (q134), .inr (.inr 150), .inl (q132)]) (h1 := (px_G1, s)) rfl ?_
        by_cases hc135 : 0 ≤ (px_wr (x3 + 2))
        case neg => rw [if_neg hc135] at h; cases h
        rw [if_pos hc135] at h
        obtain ⟨q136, hq136, h⟩ := Option.bind_eq_some_iff.mp h
        refine px_D_sld (j := px_wr (x3 + 2)) rfl hc135 hq136 ?_
        refine px_D_call (as := [.inr (.inr 150), .inl (q134), .inl (q136)]) (rest := [.inl (q132)]) rfl rfl rfl rfl ?_
        obtain ⟨q137, hq137, h⟩ := Option.bind_eq_some_iff.mp h
        refine px_D_mono (c_M_mud (d := d + 193) hq137) ?_
        rintro _ _ ⟨rfl, rfl⟩
        show px_D sc (d + 196) 282 320 [(0, .inr (.inr 1)), (1, .inr (.inr 5)), (2, .inr (.inr 150)), (3, .inl (x3))] [.inl (q137.1), .inl (q132)] (px_G1, q137.2) _
        refine px_D_icmp rfl (fun hc => ?_) (fun hc => ?_)
        · have hc138 : (q132) = (q137.1) := of_decide_eq_true hc
          rw [if_pos hc138] at h
          refine px_D_st 2 (ip1 := 10) (ls1 := [(3, .inl (px_wr (x3 + 6))), (0, .inr (.inr 1)), (1, .inr (.inr 5)), (2, .inr (.inr 150))]) (st1 := []) (h1 := (px_G1, q137.2)) rfl ?_
          refine px_D_ls [(0, .inr (.inr 1)), (1, .inr (.inr 5)), (2, .inr (.inr 150)), (3, .inl (px_wr (x3 + 6)))] rfl rfl (List.forall_mem_cons.mpr ⟨rfl, List.forall_mem_cons.mpr ⟨rfl, List.forall_mem_cons.mpr ⟨rfl, List.forall_mem_cons.mpr ⟨rfl, fun _ h => absurd h List.not_mem_nil⟩⟩⟩⟩) ?_
          exact ih _ _ _ h
        · have hc138 : ¬ ((q132) = (q137.1)) := of_decide_eq_false hc
          rw [if_neg hc138] at h
          refine px_D_st 1 (ip1 := 322) (ls1 := [(0, .inr (.inr 1)), (1, .inr (.inr 5)), (2, .inr (.inr 150)), (3, .inl (x3))]) (st1 := [.inl (0)]) (h1 := (px_G1, q137.2)) rfl ?_
          cases h
          exact px_D_iret rfl rfl ⟨rfl, rfl⟩
      rw [if_neg hc127] at h
      by_cases hc139 : (px_and (q3) (31)) = 13
      · rw [if_pos hc139] at h
        refine px_D_tsw (c := 13) rfl hc139 (by decide) rfl ?_
        refine px_D_st 5 (ip1 := 328) (ls1 := [(0, .inr (.inr 1)), (1, .inr (.inr 5)), (2, .inr (.inr 150)), (3, .inl (x3))]) (st1 := [.inl (px_wr (x3 + 1)), .inr (.inr 1), .inr (.inr 5)]) (h1 := (px_G1, s)) rfl ?_
        by_cases hc140 : 0 ≤ (px_wr (x3 + 1))
        case neg => rw [if_neg hc140] at h; cases h
        rw [if_pos hc140] at h
        obtain ⟨q141, hq141, h⟩ := Option.bind_eq_some_iff.mp h
        refine px_D_sld (j := px_wr (x3 + 1)) rfl hc140 hq141 ?_
        refine px_D_st 4 (ip1 := 333) (ls1 := [(0, .inr (.inr 1)), (1, .inr (.inr 5)), (2, .inr (.inr 150)), (3, .inl (x3))]) (st1 := [.inl (px_wr (x3 + 2)), .inr (.inr 1), .inl (q141), .inr (.inr 5)]) (h1 := (px_G1, s)) rfl ?_
        by_cases hc142 : 0 ≤ (px_wr (x3 + 2))
        case neg => rw [if_neg hc142] at h; cases h
        rw [if_pos hc142] at h
        obtain ⟨q143, hq143, h⟩ := Option.bind_eq_some_iff.mp h
        refine px_D_sld (j := px_wr (x3 + 2)) rfl hc142 hq143 ?_
        refine px_D_call (as := [.inr (.inr 5), .inl (q141), .inl (q143)]) (rest := []) rfl rfl rfl rfl ?_
        obtain ⟨q144, hq144, h⟩ := Option.bind_eq_some_iff.mp h
        refine px_D_mono (c_R_book (d := d + 194) hq144) ?_
        rintro _ _ ⟨rfl, rfl⟩
        show px_D sc (d + 196) 282 335 [(0, .inr (.inr 1)), (1, .inr (.inr 5)), (2, .inr (.inr 150)), (3, .inl (x3))] [.inl (q144)] (px_G1, s) _
        refine px_D_st 5 (ip1 := 340) (ls1 := [(0, .inr (.inr 1)), (1, .inr (.inr 5)), (2, .inr (.inr 150)), (3, .inl (x3))]) (st1 := [.inl (px_wr (x3 + 1)), .inr (.inr 1), .inr (.inr 150), .inl (q144)]) (h1 := (px_G1, s)) rfl ?_
        by_cases hc145 : 0 ≤ (px_wr (x3 + 1))
        case neg => rw [if_neg hc145] at h; cases h
        rw [if_pos hc145] at h
        obtain ⟨q146, hq146, h⟩ := Option.bind_eq_some_iff.mp h
        refine px_D_sld (j := px_wr (x3 + 1)) rfl hc145 hq146 ?_
        refine px_D_st 4 (ip1 := 345) (ls1 := [(0, .inr (.inr 1)), (1, .inr (.inr 5)), (2, .inr (.inr 150)), (3, .inl (x3))]) (st1 := [.inl (px_wr (x3 + 2)), .inr (.inr 1), .inl (q146), .inr (.inr 150), .inl (q144)]) (h1 := (px_G1, s)) rfl ?_
        by_cases hc147 : 0 ≤ (px_wr (x3 + 2))
        case neg => rw [if_neg hc147] at h; cases h
        rw [if_pos hc147] at h
        obtain ⟨q148, hq148, h⟩ := Option.bind_eq_some_iff.mp h
        refine px_D_sld (j := px_wr (x3 + 2)) rfl hc147 hq148 ?_
        refine px_D_call (as := [.inr (.inr 150), .inl (q146), .inl (q148)]) (rest := [.inl (q144)]) rfl rfl rfl rfl ?_
        obtain ⟨q149, hq149, h⟩ := Option.bind_eq_some_iff.mp h
        refine px_D_mono (c_M_book (d := d + 194) hq149) ?_
        rintro _ _ ⟨rfl, rfl⟩
        show px_D sc (d + 196) 282 347 [(0, .inr (.inr 1)), (1, .inr (.inr 5)), (2, .inr (.inr 150)), (3, .inl (x3))] [.inl (q149.1), .inl (q144)] (px_G1, q149.2) _
        refine px_D_icmp rfl (fun hc => ?_) (fun hc => ?_)
        · have hc150 : (q144) = (q149.1) := of_decide_eq_true hc
          rw [if_pos hc150] at h
          refine px_D_st 2 (ip1 := 10) (ls1 := [(3, .inl (px_wr (x3 + 6))), (0, .inr (.inr 1)), (1, .inr (.inr 5)), (2, .inr (.inr 150))]) (st1 := []) (h1 := (px_G1, q149.2)) rfl ?_
          refine px_D_ls [(0, .inr (.inr 1)), (1, .inr (.inr 5)), (2, .inr (.inr 150)), (3, .inl (px_wr (x3 + 6)))] rfl rfl (List.forall_mem_cons.mpr ⟨rfl, List.forall_mem_cons.mpr ⟨rfl, List.forall_mem_cons.mpr ⟨rfl, List.forall_mem_cons.mpr ⟨rfl, fun _ h => absurd h List.not_mem_nil⟩⟩⟩⟩) ?_
          exact ih _ _ _ h
        · have hc150 : ¬ ((q144) = (q149.1)) := of_decide_eq_false hc
          rw [if_neg hc150] at h
          refine px_D_st 1 (ip1 := 349) (ls1 := [(0, .inr (.inr 1)), (1, .inr (.inr 5)), (2, .inr (.inr 150)), (3, .inl (x3))]) (st1 := [.inl (0)]) (h1 := (px_G1, q149.2)) rfl ?_
          cases h
          exact px_D_iret rfl rfl ⟨rfl, rfl⟩
      rw [if_neg hc139] at h
      by_cases hc151 : (px_and (q3) (31)) = 14
      · rw [if_pos hc151] at h
        refine px_D_tsw (c := 14) rfl hc151 (by decide) rfl ?_
        refine px_D_st 5 (ip1 := 355) (ls1 := [(0, .inr (.inr 1)), (1, .inr (.inr 5)), (2, .inr (.inr 150)), (3, .inl (x3))]) (st1 := [.inl (px_wr (x3 + 1)), .inr (.inr 1), .inr (.inr 5)]) (h1 := (px_G1, s)) rfl ?_
        by_cases hc152 : 0 ≤ (px_wr (x3 + 1))
        case neg => rw [if_neg hc152] at h; cases h
        rw [if_pos hc152] at h
        obtain ⟨q153, hq153, h⟩ := Option.bind_eq_some_iff.mp h
        refine px_D_sld (j := px_wr (x3 + 1)) rfl hc152 hq153 ?_
        refine px_D_call (as := [.inr (.inr 5), .inl (q153)]) (rest := []) rfl rfl rfl rfl ?_
        obtain ⟨q154, hq154, h⟩ := Option.bind_eq_some_iff.mp h
        refine px_D_mono (c_R_least (d := d + 189) hq154) ?_
        rintro _ _ ⟨rfl, rfl⟩
        show px_D sc (d + 196) 282 357 [(0, .inr (.inr 1)), (1, .inr (.inr 5)), (2, .inr (.inr 150)), (3, .inl (x3))] [.inl (q154.1)] (px_G1, q154.2) _
        refine px_D_st 5 (ip1 := 362) (ls1 := [(0, .inr (.inr 1)), (1, .inr (.inr 5)), (2, .inr (.inr 150)), (3, .inl (x3))]) (st1 := [.inl (px_wr (x3 + 1)), .inr (.inr 1), .inr (.inr 150), .inl (q154.1)]) (h1 := (px_G1, q154.2)) rfl ?_
        by_cases hc155 : 0 ≤ (px_wr (x3 + 1))
        case neg => rw [if_neg hc155] at h; cases h
        rw [if_pos hc155] at h
        obtain ⟨q156, hq156, h⟩ := Option.bind_eq_some_iff.mp h
        refine px_D_sld (j := px_wr (x3 + 1)) rfl hc155 hq156 ?_
        refine px_D_call (as := [.inr (.inr 150), .inl (q156)]) (rest := [.inl (q154.1)]) rfl rfl rfl rfl ?_
        obtain ⟨q157, hq157, h⟩ := Option.bind_eq_some_iff.mp h
        refine px_D_mono (c_M_least (d := d + 186) hq157) ?_
        rintro _ _ ⟨rfl, rfl⟩
        show px_D sc (d + 196) 282 364 [(0, .inr (.inr 1)), (1, .inr (.inr 5)), (2, .inr (.inr 150)), (3, .inl (x3))] [.inl (q157.1), .inl (q154.1)] (px_G1, q157.2) _
        refine px_D_icmp rfl (fun hc => ?_) (fun hc => ?_)
        · have hc158 : (q154.1) = (q157.1) := of_decide_eq_true hc
          rw [if_pos hc158] at h
          refine px_D_st 2 (ip1 := 10) (ls1 := [(3, .inl (px_wr (x3 + 6))), (0, .inr (.inr 1)), (1, .inr (.inr 5)), (2, .inr (.inr 150))]) (st1 := []) (h1 := (px_G1, q157.2)) rfl ?_
          refine px_D_ls [(0, .inr (.inr 1)), (1, .inr (.inr 5)), (2, .inr (.inr 150)), (3, .inl (px_wr (x3 + 6)))] rfl rfl (List.forall_mem_cons.mpr ⟨rfl, List.forall_mem_cons.mpr ⟨rfl, List.forall_mem_cons.mpr ⟨rfl, List.forall_mem_cons.mpr ⟨rfl, fun _ h => absurd h List.not_mem_nil⟩⟩⟩⟩) ?_
          exact ih _ _ _ h
        · have hc158 : ¬ ((q154.1) = (q157.1)) := of_decide_eq_false hc
          rw [if_neg hc158] at h
          refine px_D_st 1 (ip1 := 366) (ls1 := [(0, .inr (.inr 1)), (1, .inr (.inr 5)), (2, .inr (.inr 150)), (3, .inl (x3))]) (st1 := [.inl (0)]) (h1 := (px_G1, q157.2)) rfl ?_
          cases h
          exact px_D_iret rfl rfl ⟨rfl, rfl⟩
      rw [if_neg hc151] at h
      by_cases hc159 : (px_and (q3) (31)) = 15
      · rw [if_pos hc159] at h
        refine px_D_tsw (c := 15) rfl hc159 (by decide) rfl ?_
        refine px_D_st 5 (ip1 := 372) (ls1 := [(0, .inr (.inr 1)), (1, .inr (.inr 5)), (2, .inr (.inr 150)), (3, .inl (x3))]) (st1 := [.inl (px_wr (x3 + 1)), .inr (.inr 1), .inr (.inr 5)]) (h1 := (px_G1, s)) rfl ?_
        by_cases hc160 : 0 ≤ (px_wr (x3 + 1))
        case neg => rw [if_neg hc160] at h; cases h
        rw [if_pos hc160] at h
        obtain ⟨q161, hq161, h⟩ := Option.bind_eq_some_iff.mp h
        refine px_D_sld (j := px_wr (x3 + 1)) rfl hc160 hq161 ?_
        refine px_D_call (as := [.inr (.inr 5), .inl (q161)]) (rest := []) rfl rfl rfl rfl ?_
        obtain ⟨q162, hq162, h⟩ := Option.bind_eq_some_iff.mp h
        refine px_D_mono (c_R_orders (d := d + 192) hq162) ?_
        rintro _ _ ⟨rfl, rfl⟩
        show px_D sc (d + 196) 282 374 [(0, .inr (.inr 1)), (1, .inr (.inr 5)), (2, .inr (.inr 150)), (3, .inl (x3))] [.inl (q162.1)] (px_G1, q162.2) _
        refine px_D_st 5 (ip1 := 379) (ls1 := [(0, .inr (.inr 1)), (1, .inr (.inr 5)), (2, .inr (.inr 150)), (3, .inl (x3))]) (st1 := [.inl (px_wr (x3 + 1)), .inr (.inr 1), .inr (.inr 150), .inl (q162.1)]) (h1 := (px_G1, q162.2)) rfl ?_
        by_cases hc163 : 0 ≤ (px_wr (x3 + 1))
        case neg => rw [if_neg hc163] at h; cases h
        rw [if_pos hc163] at h
        obtain ⟨q164, hq164, h⟩ := Option.bind_eq_some_iff.mp h
        refine px_D_sld (j := px_wr (x3 + 1)) rfl hc163 hq164 ?_
        refine px_D_call (as := [.inr (.inr 150), .inl (q164)]) (rest := [.inl (q162.1)]) rfl rfl rfl rfl ?_
        obtain ⟨q165, hq165, h⟩ := Option.bind_eq_some_iff.mp h
        refine px_D_mono (c_M_orders (d := d + 191) hq165) ?_
        rintro _ _ ⟨rfl, rfl⟩
        show px_D sc (d + 196) 282 381 [(0, .inr (.inr 1)), (1, .inr (.inr 5)), (2, .inr (.inr 150)), (3, .inl (x3))] [.inl (q165.1), .inl (q162.1)] (px_G1, q165.2) _
        refine px_D_icmp rfl (fun hc => ?_) (fun hc => ?_)
        · have hc166 : (q162.1) = (q165.1) := of_decide_eq_true hc
          rw [if_pos hc166] at h
          refine px_D_st 2 (ip1 := 10) (ls1 := [(3, .inl (px_wr (x3 + 6))), (0, .inr (.inr 1)), (1, .inr (.inr 5)), (2, .inr (.inr 150))]) (st1 := []) (h1 := (px_G1, q165.2)) rfl ?_
          refine px_D_ls [(0, .inr (.inr 1)), (1, .inr (.inr 5)), (2, .inr (.inr 150)), (3, .inl (px_wr (x3 + 6)))] rfl rfl (List.forall_mem_cons.mpr ⟨rfl, List.forall_mem_cons.mpr ⟨rfl, List.forall_mem_cons.mpr ⟨rfl, List.forall_mem_cons.mpr ⟨rfl, fun _ h => absurd h List.not_mem_nil⟩⟩⟩⟩) ?_
          exact ih _ _ _ h
        · have hc166 : ¬ ((q162.1) = (q165.1)) := of_decide_eq_false hc
          rw [if_neg hc166] at h
          refine px_D_st 1 (ip1 := 383) (ls1 := [(0, .inr (.inr 1)), (1, .inr (.inr 5)), (2, .inr (.inr 150)), (3, .inl (x3))]) (st1 := [.inl (0)]) (h1 := (px_G1, q165.2)) rfl ?_
          cases h
          exact px_D_iret rfl rfl ⟨rfl, rfl⟩
      rw [if_neg hc159] at h
      by_cases hc167 : (px_and (q3) (31)) = 16
      · rw [if_pos hc167] at h
        refine px_D_tsw (c := 16) rfl hc167 (by decide) rfl ?_
        refine px_D_st 5 (ip1 := 389) (ls1 := [(0, .inr (.inr 1)), (1, .inr (.inr 5)), (2, .inr (.inr 150)), (3, .inl (x3))]) (st1 := [.inl (px_wr (x3 + 1)), .inr (.inr 1), .inr (.inr 5)]) (h1 := (px_G1, s)) rfl ?_
        by_cases hc168 : 0 ≤ (px_wr (x3 + 1))
        case neg => rw [if_neg hc168] at h; cases h
        rw [if_pos hc168] at h
        obtain ⟨q169, hq169, h⟩ := Option.bind_eq_some_iff.mp h
        refine px_D_sld (j := px_wr (x3 + 1)) rfl hc168 hq169 ?_
        refine px_D_st 4 (ip1 := 394) (ls1 := [(0, .inr (.inr 1)), (1, .inr (.inr 5)), (2, .inr (.inr 150)), (3, .inl (x3))]) (st1 := [.inl (px_wr (x3 + 2)), .inr (.inr 1), .inl (q169), .inr (.inr 5)]) (h1 := (px_G1, s)) rfl ?_
        by_cases hc170 : 0 ≤ (px_wr (x3 + 2))
        case neg => rw [if_neg hc170] at h; cases h
        rw [if_pos hc170] at h
        obtain ⟨q171, hq171, h⟩ := Option.bind_eq_some_iff.mp h
        refine px_D_sld (j := px_wr (x3 + 2)) rfl hc170 hq171 ?_
        refine px_D_st 4 (ip1 := 399) (ls1 := [(0, .inr (.inr 1)), (1, .inr (.inr 5)), (2, .inr (.inr 150)), (3, .inl (x3))]) (st1 := [.inl (px_wr (x3 + 3)), .inr (.inr 1), .inl (q171), .inl (q169), .inr (.inr 5)]) (h1 := (px_G1, s)) rfl ?_
        by_cases hc172 : 0 ≤ (px_wr (x3 + 3))
        case neg => rw [if_neg hc172] at h; cases h
        rw [if_pos hc172] at h
        obtain ⟨q173, hq173, h⟩ := Option.bind_eq_some_iff.mp h
        refine px_D_sld (j := px_wr (x3 + 3)) rfl hc172 hq173 ?_
        refine px_D_st 4 (ip1 := 404) (ls1 := [(0, .inr (.inr 1)), (1, .inr (.inr 5)), (2, .inr (.inr 150)), (3, .inl (x3))]) (st1 := [.inl (px_wr (x3 + 4)), .inr (.inr 1), .inl (q173), .inl (q171), .inl (q169), .inr (.inr 5)]) (h1 := (px_G1, s)) rfl ?_
        by_cases hc174 : 0 ≤ (px_wr (x3 + 4))
        case neg => rw [if_neg hc174] at h; cases h
        rw [if_pos hc174] at h
        obtain ⟨q175, hq175, h⟩ := Option.bind_eq_some_iff.mp h
        refine px_D_sld (j := px_wr (x3 + 4)) rfl hc174 hq175 ?_
        refine px_D_call (as := [.inr (.inr 5), .inl (q169), .inl (q171), .inl (q173), .inl (q175)]) (rest := []) rfl rfl rfl rfl ?_
        obtain ⟨q176, hq176, h⟩ := Option.bind_eq_some_iff.mp h
        refine px_D_mono (c_R_fits (d := d + 192) hq176) ?_
        rintro _ _ ⟨rfl, rfl⟩
        show px_D sc (d + 196) 282 406 [(0, .inr (.inr 1)), (1, .inr (.inr 5)), (2, .inr (.inr 150)), (3, .inl (x3))] [.inl (q176)] (px_G1, s) _
        refine px_D_st 5 (ip1 := 411) (ls1 := [(0, .inr (.inr 1)), (1, .inr (.inr 5)), (2, .inr (.inr 150)), (3, .inl (x3))]) (st1 := [.inl (px_wr (x3 + 1)), .inr (.inr 1), .inr (.inr 150), .inl (q176)]) (h1 := (px_G1, s)) rfl ?_
        by_cases hc177 : 0 ≤ (px_wr (x3 + 1))
        case neg => rw [if_neg hc177] at h; cases h
        rw [if_pos hc177] at h
        obtain ⟨q178, hq178, h⟩ := Option.bind_eq_some_iff.mp h
        refine px_D_sld (j := px_wr (x3 + 1)) rfl hc177 hq178 ?_
        refine px_D_st 4 (ip1 := 416) (ls1 := [(0, .inr (.inr 1)), (1, .inr (.inr 5)), (2, .inr (.inr 150)), (3, .inl (x3))]) (st1 := [.inl (px_wr (x3 + 2)), .inr (.inr 1), .inl (q178), .inr (.inr 150), .inl (q176)]) (h1 := (px_G1, s)) rfl ?_
        by_cases hc179 : 0 ≤ (px_wr (x3 + 2))
        case neg => rw [if_neg hc179] at h; cases h
        rw [if_pos hc179] at h
        obtain ⟨q180, hq180, h⟩ := Option.bind_eq_some_iff.mp h
        refine px_D_sld (j := px_wr (x3 + 2)) rfl hc179 hq180 ?_
        refine px_D_st 4 (ip1 := 421) (ls1 := [(0, .inr (.inr 1)), (1, .inr (.inr 5)), (2, .inr (.inr 150)), (3, .inl (x3))]) (st1 := [.inl (px_wr (x3 + 3)), .inr (.inr 1), .inl (q180), .inl (q178), .inr (.inr 150), .inl (q176)]) (h1 := (px_G1, s)) rfl ?_
        by_cases hc181 : 0 ≤ (px_wr (x3 + 3))
        case neg => rw [if_neg hc181] at h; cases h
        rw [if_pos hc181] at h
        obtain ⟨q182, hq182, h⟩ := Option.bind_eq_some_iff.mp h
        refine px_D_sld (j := px_wr (x3 + 3)) rfl hc181 hq182 ?_
        refine px_D_st 4 (ip1 := 426) (ls1 := [(0, .inr (.inr 1)), (1, .inr (.inr 5)), (2, .inr (.inr 150)), (3, .inl (x3))]) (st1 := [.inl (px_wr (x3 + 4)), .inr (.inr 1), .inl (q182), .inl (q180), .inl (q178), .inr (.inr 150), .inl (q176)]) (h1 := (px_G1, s)) rfl ?_
        by_cases hc183 : 0 ≤ (px_wr (x3 + 4))
        case neg => rw [if_neg hc183] at h; cases h
        rw [if_pos hc183] at h
        obtain ⟨q184, hq184, h⟩ := Option.bind_eq_some_iff.mp h
        refine px_D_sld (j := px_wr (x3 + 4)) rfl hc183 hq184 ?_
        refine px_D_call (as := [.inr (.inr 150), .inl (q178), .inl (q180), .inl (q182), .inl (q184)]) (rest := [.inl (q176)]) rfl rfl rfl rfl ?_
        obtain ⟨q185, hq185, h⟩ := Option.bind_eq_some_iff.mp h
        refine px_D_mono (c_M_fits (d := d + 193) hq185) ?_
        rintro _ _ ⟨rfl, rfl⟩
        show px_D sc (d + 196) 282 428 [(0, .inr (.inr 1)), (1, .inr (.inr 5)), (2, .inr (.inr 150)), (3, .inl (x3))] [.inl (q185.1), .inl (q176)] (px_G1, q185.2) _
        refine px_D_icmp rfl (fun hc => ?_) (fun hc => ?_)
        · have hc186 : (q176) = (q185.1) := of_decide_eq_true hc
          rw [if_pos hc186] at h
          refine px_D_st 2 (ip1 := 10) (ls1 := [(3, .inl (px_wr (x3 + 6))), (0, .inr (.inr 1)), (1, .inr (.inr 5)), (2, .inr (.inr 150))]) (st1 := []) (h1 := (px_G1, q185.2)) rfl ?_
          refine px_D_ls [(0, .inr (.inr 1)), (1, .inr (.inr 5)), (2, .inr (.inr 150)), (3, .inl (px_wr (x3 + 6)))] rfl rfl (List.forall_mem_cons.mpr ⟨rfl, List.forall_mem_cons.mpr ⟨rfl, List.forall_mem_cons.mpr ⟨rfl, List.forall_mem_cons.mpr ⟨rfl, fun _ h => absurd h List.not_mem_nil⟩⟩⟩⟩) ?_
          exact ih _ _ _ h
        · have hc186 : ¬ ((q176) = (q185.1)) := of_decide_eq_false hc
          rw [if_neg hc186] at h
          refine px_D_st 1 (ip1 := 430) (ls1 := [(0, .inr (.inr 1)), (1, .inr (.inr 5)), (2, .inr (.inr 150)), (3, .inl (x3))]) (st1 := [.inl (0)]) (h1 := (px_G1, q185.2)) rfl ?_
          cases h
          exact px_D_iret rfl rfl ⟨rfl, rfl⟩
      rw [if_neg hc167] at h
      by_cases hc187 : (px_and (q3) (31)) = 17
      · rw [if_pos hc187] at h
        refine px_D_tsw (c := 17) rfl hc187 (by decide) rfl ?_
        refine px_D_st 1 (ip1 := 432) (ls1 := [(0, .inr (.inr 1)), (1, .inr (.inr 5)), (2, .inr (.inr 150)), (3, .inl (x3))]) (st1 := [.inr (.inr 5)]) (h1 := (px_G1, s)) rfl ?_
        refine px_D_call (as := [.inr (.inr 5)]) (rest := []) rfl rfl rfl rfl ?_
        obtain ⟨q188, hq188, h⟩ := Option.bind_eq_some_iff.mp h
        refine px_D_mono (c_R_kept (d := d + 193) hq188) ?_
        rintro _ _ ⟨rfl, rfl⟩
        show px_D sc (d + 196) 282 433 [(0, .inr (.inr 1)), (1, .inr (.inr 5)), (2, .inr (.inr 150)), (3, .inl (x3))] [.inl (q188)] (px_G1, s) _
        refine px_D_st 1 (ip1 := 434) (ls1 := [(0, .inr (.inr 1)), (1, .inr (.inr 5)), (2, .inr (.inr 150)), (3, .inl (x3))]) (st1 := [.inr (.inr 150), .inl (q188)]) (h1 := (px_G1, s)) rfl ?_
        refine px_D_call (as := [.inr (.inr 150)]) (rest := [.inl (q188)]) rfl rfl rfl rfl ?_
        obtain ⟨q189, hq189, h⟩ := Option.bind_eq_some_iff.mp h
        refine px_D_mono (c_M_kept (d := d + 192) hq189) ?_
        rintro _ _ ⟨rfl, rfl⟩
        show px_D sc (d + 196) 282 435 [(0, .inr (.inr 1)), (1, .inr (.inr 5)), (2, .inr (.inr 150)), (3, .inl (x3))] [.inl (q189.1), .inl (q188)] (px_G1, q189.2) _
        refine px_D_icmp rfl (fun hc => ?_) (fun hc => ?_)
        · have hc190 : (q188) = (q189.1) := of_decide_eq_true hc
          rw [if_pos hc190] at h
          refine px_D_st 2 (ip1 := 10) (ls1 := [(3, .inl (px_wr (x3 + 6))), (0, .inr (.inr 1)), (1, .inr (.inr 5)), (2, .inr (.inr 150))]) (st1 := []) (h1 := (px_G1, q189.2)) rfl ?_
          refine px_D_ls [(0, .inr (.inr 1)), (1, .inr (.inr 5)), (2, .inr (.inr 150)), (3, .inl (px_wr (x3 + 6)))] rfl rfl (List.forall_mem_cons.mpr ⟨rfl, List.forall_mem_cons.mpr ⟨rfl, List.forall_mem_cons.mpr ⟨rfl, List.forall_mem_cons.mpr ⟨rfl, fun _ h => absurd h List.not_mem_nil⟩⟩⟩⟩) ?_
          exact ih _ _ _ h
        · have hc190 : ¬ ((q188) = (q189.1)) := of_decide_eq_false hc
          rw [if_neg hc190] at h
          refine px_D_st 1 (ip1 := 437) (ls1 := [(0, .inr (.inr 1)), (1, .inr (.inr 5)), (2, .inr (.inr 150)), (3, .inl (x3))]) (st1 := [.inl (0)]) (h1 := (px_G1, q189.2)) rfl ?_
          cases h
          exact px_D_iret rfl rfl ⟨rfl, rfl⟩
      rw [if_neg hc187] at h
      by_cases hc191 : (px_and (q3) (31)) = 18
      · rw [if_pos hc191] at h
        refine px_D_tsw (c := 18) rfl hc191 (by decide) rfl ?_
        refine px_D_st 5 (ip1 := 443) (ls1 := [(0, .inr (.inr 1)), (1, .inr (.inr 5)), (2, .inr (.inr 150)), (3, .inl (x3))]) (st1 := [.inl (px_wr (x3 + 1)), .inr (.inr 1), .inr (.inr 5)]) (h1 := (px_G1, s)) rfl ?_
        by_cases hc192 : 0 ≤ (px_wr (x3 + 1))
        case neg => rw [if_neg hc192] at h; cases h
        rw [if_pos hc192] at h
        obtain ⟨q193, hq193, h⟩ := Option.bind_eq_some_iff.mp h
        refine px_D_sld (j := px_wr (x3 + 1)) rfl hc192 hq193 ?_
        refine px_D_call (as := [.inr (.inr 5), .inl (q193)]) (rest := []) rfl rfl rfl rfl ?_
        obtain ⟨q194, hq194, h⟩ := Option.bind_eq_some_iff.mp h
        refine px_D_mono (c_R_letter (d := d + 194) hq194) ?_
        rintro _ _ ⟨rfl, rfl⟩
        show px_D sc (d + 196) 282 445 [(0, .inr (.inr 1)), (1, .inr (.inr 5)), (2, .inr (.inr 150)), (3, .inl (x3))] [.inl (q194.1)] (px_G1, q194.2) _
        refine px_D_st 5 (ip1 := 450) (ls1 := [(0, .inr (.inr 1)), (1, .inr (.inr 5)), (2, .inr (.inr 150)), (3, .inl (x3))]) (st1 := [.inl (px_wr (x3 + 1)), .inr (.inr 1), .inr (.inr 150), .inl (q194.1)]) (h1 := (px_G1, q194.2)) rfl ?_
        by_cases hc195 : 0 ≤ (px_wr (x3 + 1))
        case neg => rw [if_neg hc195] at h; cases h
        rw [if_pos hc195] at h
        obtain ⟨q196, hq196, h⟩ := Option.bind_eq_some_iff.mp h
        refine px_D_sld (j := px_wr (x3 + 1)) rfl hc195 hq196 ?_
        refine px_D_call (as := [.inr (.inr 150), .inl (q196)]) (rest := [.inl (q194.1)]) rfl rfl rfl rfl ?_
        obtain ⟨q197, hq197, h⟩ := Option.bind_eq_some_iff.mp h
        refine px_D_mono (c_M_letter (d := d + 195) hq197) ?_
        rintro _ _ ⟨rfl, rfl⟩
        show px_D sc (d + 196) 282 452 [(0, .inr (.inr 1)), (1, .inr (.inr 5)), (2, .inr (.inr 150)), (3, .inl (x3))] [.inl (q197.1), .inl (q194.1)] (px_G1, q197.2) _
        refine px_D_icmp rfl (fun hc => ?_) (fun hc => ?_)
        · have hc198 : (q194.1) = (q197.1) := of_decide_eq_true hc
          rw [if_pos hc198] at h
          refine px_D_st 2 (ip1 := 10) (ls1 := [(3, .inl (px_wr (x3 + 6))), (0, .inr (.inr 1)), (1, .inr (.inr 5)), (2, .inr (.inr 150))]) (st1 := []) (h1 := (px_G1, q197.2)) rfl ?_
          refine px_D_ls [(0, .inr (.inr 1)), (1, .inr (.inr 5)), (2, .inr (.inr 150)), (3, .inl (px_wr (x3 + 6)))] rfl rfl (List.forall_mem_cons.mpr ⟨rfl, List.forall_mem_cons.mpr ⟨rfl, List.forall_mem_cons.mpr ⟨rfl, List.forall_mem_cons.mpr ⟨rfl, fun _ h => absurd h List.not_mem_nil⟩⟩⟩⟩) ?_
          exact ih _ _ _ h
        · have hc198 : ¬ ((q194.1) = (q197.1)) := of_decide_eq_false hc
          rw [if_neg hc198] at h
          refine px_D_st 1 (ip1 := 454) (ls1 := [(0, .inr (.inr 1)), (1, .inr (.inr 5)), (2, .inr (.inr 150)), (3, .inl (x3))]) (st1 := [.inl (0)]) (h1 := (px_G1, q197.2)) rfl ?_
          cases h
          exact px_D_iret rfl rfl ⟨rfl, rfl⟩
      rw [if_neg hc191] at h
      by_cases hc199 : (px_and (q3) (31)) = 19
      · rw [if_pos hc199] at h
        refine px_D_tsw (c := 19) rfl hc199 (by decide) rfl ?_
        refine px_D_st 5 (ip1 := 460) (ls1 := [(0, .inr (.inr 1)), (1, .inr (.inr 5)), (2, .inr (.inr 150)), (3, .inl (x3))]) (st1 := [.inl (px_wr (x3 + 1)), .inr (.inr 1), .inr (.inr 5)]) (h1 := (px_G1, s)) rfl ?_
        by_cases hc200 : 0 ≤ (px_wr (x3 + 1))
        case neg => rw [if_neg hc200] at h; cases h
        rw [if_pos hc200] at h
        obtain ⟨q201, hq201, h⟩ := Option.bind_eq_some_iff.mp h
        refine px_D_sld (j := px_wr (x3 + 1)) rfl hc200 hq201 ?_
        refine px_D_call (as := [.inr (.inr 5), .inl (q201)]) (rest := []) rfl rfl rfl rfl ?_
        obtain ⟨q202, hq202, h⟩ := Option.bind_eq_some_iff.mp h
        refine px_D_mono (c_R_letters (d := d + 193) hq202) ?_
        rintro _ _ ⟨rfl, rfl⟩
        show px_D sc (d + 196) 282 462 [(0, .inr (.inr 1)), (1, .inr (.inr 5)), (2, .inr (.inr 150)), (3, .inl (x3))] [.inl (q202)] (px_G1, s) _
        refine px_D_st 5 (ip1 := 467) (ls1 := [(0, .inr (.inr 1)), (1, .inr (.inr 5)), (2, .inr (.inr 150)), (3, .inl (x3))]) (st1 := [.inl (px_wr (x3 + 1)), .inr (.inr 1), .inr (.inr 150), .inl (q202)]) (h1 := (px_G1, s)) rfl ?_
        by_cases hc203 : 0 ≤ (px_wr (x3 + 1))
        case neg => rw [if_neg hc203] at h; cases h
        rw [if_pos hc203] at h
        obtain ⟨q204, hq204, h⟩ := Option.bind_eq_some_iff.mp h
        refine px_D_sld (j := px_wr (x3 + 1)) rfl hc203 hq204 ?_
        refine px_D_call (as := [.inr (.inr 150), .inl (q204)]) (rest := [.inl (q202)]) rfl rfl rfl rfl ?_
        obtain ⟨q205, hq205, h⟩ := Option.bind_eq_some_iff.mp h
        refine px_D_mono (c_M_letters (d := d + 191) hq205) ?_
        rintro _ _ ⟨rfl, rfl⟩
        show px_D sc (d + 196) 282 469 [(0, .inr (.inr 1)), (1, .inr (.inr 5)), (2, .inr (.inr 150)), (3, .inl (x3))] [.inl (q205.1), .inl (q202)] (px_G1, q205.2) _
        refine px_D_icmp rfl (fun hc => ?_) (fun hc => ?_)
        · have hc206 : (q202) = (q205.1) := of_decide_eq_true hc
          rw [if_pos hc206] at h
          refine px_D_st 2 (ip1 := 10) (ls1 := [(3, .inl (px_wr (x3 + 6))), (0, .inr (.inr 1)), (1, .inr (.inr 5)), (2, .inr (.inr 150))]) (st1 := []) (h1 := (px_G1, q205.2)) rfl ?_
          refine px_D_ls [(0, .inr (.inr 1)), (1, .inr (.inr 5)), (2, .inr (.inr 150)), (3, .inl (px_wr (x3 + 6)))] rfl rfl (List.forall_mem_cons.mpr ⟨rfl, List.forall_mem_cons.mpr ⟨rfl, List.forall_mem_cons.mpr ⟨rfl, List.forall_mem_cons.mpr ⟨rfl, fun _ h => absurd h List.not_mem_nil⟩⟩⟩⟩) ?_
          exact ih _ _ _ h
        · have hc206 : ¬ ((q202) = (q205.1)) := of_decide_eq_false hc
          rw [if_neg hc206] at h
          refine px_D_st 1 (ip1 := 471) (ls1 := [(0, .inr (.inr 1)), (1, .inr (.inr 5)), (2, .inr (.inr 150)), (3, .inl (x3))]) (st1 := [.inl (0)]) (h1 := (px_G1, q205.2)) rfl ?_
          cases h
          exact px_D_iret rfl rfl ⟨rfl, rfl⟩
      rw [if_neg hc199] at h
      by_cases hc207 : (px_and (q3) (31)) = 20
      · rw [if_pos hc207] at h
        refine px_D_tsw (c := 20) rfl hc207 (by decide) rfl ?_
        refine px_D_st 5 (ip1 := 477) (ls1 := [(0, .inr (.inr 1)), (1, .inr (.inr 5)), (2, .inr (.inr 150)), (3, .inl (x3))]) (st1 := [.inl (px_wr (x3 + 1)), .inr (.inr 1), .inr (.inr 5)]) (h1 := (px_G1, s)) rfl ?_
        by_cases hc208 : 0 ≤ (px_wr (x3 + 1))
        case neg => rw [if_neg hc208] at h; cases h
        rw [if_pos hc208] at h
        obtain ⟨q209, hq209, h⟩ := Option.bind_eq_some_iff.mp h
        refine px_D_sld (j := px_wr (x3 + 1)) rfl hc208 hq209 ?_
        refine px_D_st 4 (ip1 := 482) (ls1 := [(0, .inr (.inr 1)), (1, .inr (.inr 5)), (2, .inr (.inr 150)), (3, .inl (x3))]) (st1 := [.inl (px_wr (x3 + 2)), .inr (.inr 1), .inl (q209), .inr (.inr 5)]) (h1 := (px_G1, s)) rfl ?_
        by_cases hc210 : 0 ≤ (px_wr (x3 + 2))
        case neg => rw [if_neg hc210] at h; cases h
        rw [if_pos hc210] at h
        obtain ⟨q211, hq211, h⟩ := Option.bind_eq_some_iff.mp h
        refine px_D_sld (j := px_wr (x3 + 2)) rfl hc210 hq211 ?_
        refine px_D_st 4 (ip1 := 487) (ls1 := [(0, .inr (.inr 1)), (1, .inr (.inr 5)), (2, .inr (.inr 150)), (3, .inl (x3))]) (st1 := [.inl (px_wr (x3 + 3)), .inr (.inr 1), .inl (q211), .inl (q209), .inr (.inr 5)]) (h1 := (px_G1, s)) rfl ?_
        by_cases hc212 : 0 ≤ (px_wr (x3 + 3))
        case neg => rw [if_neg hc212] at h; cases h
        rw [if_pos hc212] at h
        obtain ⟨q213, hq213, h⟩ := Option.bind_eq_some_iff.mp h
        refine px_D_sld (j := px_wr (x3 + 3)) rfl hc212 hq213 ?_
        refine px_D_call (as := [.inr (.inr 5), .inl (q209), .inl (q211), .inl (q213)]) (rest := []) rfl rfl rfl rfl ?_
        obtain ⟨q214, hq214, h⟩ := Option.bind_eq_some_iff.mp h
        refine px_D_mono (c_R_sight (d := d + 194) hq214) ?_
        rintro _ _ ⟨rfl, rfl⟩
        show px_D sc (d + 196) 282 489 [(0, .inr (.inr 1)), (1, .inr (.inr 5)), (2, .inr (.inr 150)), (3, .inl (x3))] [.inl (q214.1)] (px_G1, q214.2) _
        refine px_D_st 5 (ip1 := 494) (ls1 := [(0, .inr (.inr 1)), (1, .inr (.inr 5)), (2, .inr (.inr 150)), (3, .inl (x3))]) (st1 := [.inl (px_wr (x3 + 1)), .inr (.inr 1), .inr (.inr 150), .inl (q214.1)]) (h1 := (px_G1, q214.2)) rfl ?_
        by_cases hc215 : 0 ≤ (px_wr (x3 + 1))
        case neg => rw [if_neg hc215] at h; cases h
        rw [if_pos hc215] at h
        obtain ⟨q216, hq216, h⟩ := Option.bind_eq_some_iff.mp h
        refine px_D_sld (j := px_wr (x3 + 1)) rfl hc215 hq216 ?_
        refine px_D_st 4 (ip1 := 499) (ls1 := [(0, .inr (.inr 1)), (1, .inr (.inr 5)), (2, .inr (.inr 150)), (3, .inl (x3))]) (st1 := [.inl (px_wr (x3 + 2)), .inr (.inr 1), .inl (q216), .inr (.inr 150), .inl (q214.1)]) (h1 := (px_G1, q214.2)) rfl ?_
        by_cases hc217 : 0 ≤ (px_wr (x3 + 2))
        case neg => rw [if_neg hc217] at h; cases h
        rw [if_pos hc217] at h
        obtain ⟨q218, hq218, h⟩ := Option.bind_eq_some_iff.mp h
        refine px_D_sld (j := px_wr (x3 + 2)) rfl hc217 hq218 ?_
        refine px_D_st 4 (ip1 := 504) (ls1 := [(0, .inr (.inr 1)), (1, .inr (.inr 5)), (2, .inr (.inr 150)), (3, .inl (x3))]) (st1 := [.inl (px_wr (x3 + 3)), .inr (.inr 1), .inl (q218), .inl (q216), .inr (.inr 150), .inl (q214.1)]) (h1 := (px_G1, q214.2)) rfl ?_
        by_cases hc219 : 0 ≤ (px_wr (x3 + 3))
        case neg => rw [if_neg hc219] at h; cases h
        rw [if_pos hc219] at h
        obtain ⟨q220, hq220, h⟩ := Option.bind_eq_some_iff.mp h
        refine px_D_sld (j := px_wr (x3 + 3)) rfl hc219 hq220 ?_
        refine px_D_call (as := [.inr (.inr 150), .inl (q216), .inl (q218), .inl (q220)]) (rest := [.inl (q214.1)]) rfl rfl rfl rfl ?_
        obtain ⟨q221, hq221, h⟩ := Option.bind_eq_some_iff.mp h
        refine px_D_mono (c_M_sight (d := d + 194) hq221) ?_
        rintro _ _ ⟨rfl, rfl⟩
        show px_D sc (d + 196) 282 506 [(0, .inr (.inr 1)), (1, .inr (.inr 5)), (2, .inr (.inr 150)), (3, .inl (x3))] [.inl (q221.1), .inl (q214.1)] (px_G1, q221.2) _
        refine px_D_icmp rfl (fun hc => ?_) (fun hc => ?_)
        · have hc222 : (q214.1) = (q221.1) := of_decide_eq_true hc
          rw [if_pos hc222] at h
          refine px_D_st 2 (ip1 := 10) (ls1 := [(3, .inl (px_wr (x3 + 6))), (0, .inr (.inr 1)), (1, .inr (.inr 5)), (2, .inr (.inr 150))]) (st1 := []) (h1 := (px_G1, q221.2)) rfl ?_
          refine px_D_ls [(0, .inr (.inr 1)), (1, .inr (.inr 5)), (2, .inr (.inr 150)), (3, .inl (px_wr (x3 + 6)))] rfl rfl (List.forall_mem_cons.mpr ⟨rfl, List.forall_mem_cons.mpr ⟨rfl, List.forall_mem_cons.mpr ⟨rfl, List.forall_mem_cons.mpr ⟨rfl, fun _ h => absurd h List.not_mem_nil⟩⟩⟩⟩) ?_
          exact ih _ _ _ h
        · have hc222 : ¬ ((q214.1) = (q221.1)) := of_decide_eq_false hc
          rw [if_neg hc222] at h
          refine px_D_st 1 (ip1 := 508) (ls1 := [(0, .inr (.inr 1)), (1, .inr (.inr 5)), (2, .inr (.inr 150)), (3, .inl (x3))]) (st1 := [.inl (0)]) (h1 := (px_G1, q221.2)) rfl ?_
          cases h
          exact px_D_iret rfl rfl ⟨rfl, rfl⟩
      rw [if_neg hc207] at h
      by_cases hc223 : (px_and (q3) (31)) = 21
      · rw [if_pos hc223] at h
        refine px_D_tsw (c := 21) rfl hc223 (by decide) rfl ?_
        refine px_D_st 1 (ip1 := 510) (ls1 := [(0, .inr (.inr 1)), (1, .inr (.inr 5)), (2, .inr (.inr 150)), (3, .inl (x3))]) (st1 := [.inr (.inr 5)]) (h1 := (px_G1, s)) rfl ?_
        refine px_D_call (as := [.inr (.inr 5)]) (rest := []) rfl rfl rfl rfl ?_
        obtain ⟨q224, hq224, h⟩ := Option.bind_eq_some_iff.mp h
        refine px_D_mono (c_R_wrong (d := d + 193) hq224) ?_
        rintro _ _ ⟨rfl, rfl⟩
        show px_D sc (d + 196) 282 511 [(0, .inr (.inr 1)), (1, .inr (.inr 5)), (2, .inr (.inr 150)), (3, .inl (x3))] [.inl (q224)] (px_G1, s) _
        refine px_D_st 1 (ip1 := 512) (ls1 := [(0, .inr (.inr 1)), (1, .inr (.inr 5)), (2, .inr (.inr 150)), (3, .inl (x3))]) (st1 := [.inr (.inr 150), .inl (q224)]) (h1 := (px_G1, s)) rfl ?_
        refine px_D_call (as := [.inr (.inr 150)]) (rest := [.inl (q224)]) rfl rfl rfl rfl ?_
        obtain ⟨q225, hq225, h⟩ := Option.bind_eq_some_iff.mp h
        refine px_D_mono (c_M_wrong (d := d + 194) hq225) ?_
        rintro _ _ ⟨rfl, rfl⟩
        show px_D sc (d + 196) 282 513 [(0, .inr (.inr 1)), (1, .inr (.inr 5)), (2, .inr (.inr 150)), (3, .inl (x3))] [.inl (q225.1), .inl (q224)] (px_G1, q225.2) _
        refine px_D_icmp rfl (fun hc => ?_) (fun hc => ?_)
        · have hc226 : (q224) = (q225.1) := of_decide_eq_true hc
          rw [if_pos hc226] at h
          refine px_D_st 2 (ip1 := 10) (ls1 := [(3, .inl (px_wr (x3 + 6))), (0, .inr (.inr 1)), (1, .inr (.inr 5)), (2, .inr (.inr 150))]) (st1 := []) (h1 := (px_G1, q225.2)) rfl ?_
          refine px_D_ls [(0, .inr (.inr 1)), (1, .inr (.inr 5)), (2, .inr (.inr 150)), (3, .inl (px_wr (x3 + 6)))] rfl rfl (List.forall_mem_cons.mpr ⟨rfl, List.forall_mem_cons.mpr ⟨rfl, List.forall_mem_cons.mpr ⟨rfl, List.forall_mem_cons.mpr ⟨rfl, fun _ h => absurd h List.not_mem_nil⟩⟩⟩⟩) ?_
          exact ih _ _ _ h
        · have hc226 : ¬ ((q224) = (q225.1)) := of_decide_eq_false hc
          rw [if_neg hc226] at h
          refine px_D_st 1 (ip1 := 515) (ls1 := [(0, .inr (.inr 1)), (1, .inr (.inr 5)), (2, .inr (.inr 150)), (3, .inl (x3))]) (st1 := [.inl (0)]) (h1 := (px_G1, q225.2)) rfl ?_
          cases h
          exact px_D_iret rfl rfl ⟨rfl, rfl⟩
      rw [if_neg hc223] at h
      by_cases hc227 : (px_and (q3) (31)) = 22
      · rw [if_pos hc227] at h
        refine px_D_tsw (c := 22) rfl hc227 (by decide) rfl ?_
        refine px_D_st 1 (ip1 := 517) (ls1 := [(0, .inr (.inr 1)), (1, .inr (.inr 5)), (2, .inr (.inr 150)), (3, .inl (x3))]) (st1 := [.inr (.inr 5)]) (h1 := (px_G1, s)) rfl ?_
        refine px_D_call (as := [.inr (.inr 5)]) (rest := []) rfl rfl rfl rfl ?_
        obtain ⟨q228, hq228, h⟩ := Option.bind_eq_some_iff.mp h
        refine px_D_mono (c_R_lasts (d := d + 190) hq228) ?_
        rintro _ _ ⟨rfl, rfl⟩
        show px_D sc (d + 196) 282 518 [(0, .inr (.inr 1)), (1, .inr (.inr 5)), (2, .inr (.inr 150)), (3, .inl (x3))] [.inl (q228.1)] (px_G1, q228.2) _
        refine px_D_st 1 (ip1 := 519) (ls1 := [(0, .inr (.inr 1)), (1, .inr (.inr 5)), (2, .inr (.inr 150)), (3, .inl (x3))]) (st1 := [.inr (.inr 150), .inl (q228.1)]) (h1 := (px_G1, q228.2)) rfl ?_
        refine px_D_call (as := [.inr (.inr 150)]) (rest := [.inl (q228.1)]) rfl rfl rfl rfl ?_
        obtain ⟨q229, hq229, h⟩ := Option.bind_eq_some_iff.mp h
        refine px_D_mono (c_M_lasts (d := d + 189) hq229) ?_
        rintro _ _ ⟨rfl, rfl⟩
        show px_D sc (d + 196) 282 520 [(0, .inr (.inr 1)), (1, .inr (.inr 5)), (2, .inr (.inr 150)), (3, .inl (x3))] [.inl (q229.1), .inl (q228.1)] (px_G1, q229.2) _
        refine px_D_icmp rfl (fun hc => ?_) (fun hc => ?_)
        · have hc230 : (q228.1) = (q229.1) := of_decide_eq_true hc
          rw [if_pos hc230] at h
          refine px_D_st 2 (ip1 := 10) (ls1 := [(3, .inl (px_wr (x3 + 6))), (0, .inr (.inr 1)), (1, .inr (.inr 5)), (2, .inr (.inr 150))]) (st1 := []) (h1 := (px_G1, q229.2)) rfl ?_
          refine px_D_ls [(0, .inr (.inr 1)), (1, .inr (.inr 5)), (2, .inr (.inr 150)), (3, .inl (px_wr (x3 + 6)))] rfl rfl (List.forall_mem_cons.mpr ⟨rfl, List.forall_mem_cons.mpr ⟨rfl, List.forall_mem_cons.mpr ⟨rfl, List.forall_mem_cons.mpr ⟨rfl, fun _ h => absurd h List.not_mem_nil⟩⟩⟩⟩) ?_
          exact ih _ _ _ h
        · have hc230 : ¬ ((q228.1) = (q229.1)) := of_decide_eq_false hc
          rw [if_neg hc230] at h
          refine px_D_st 1 (ip1 := 522) (ls1 := [(0, .inr (.inr 1)), (1, .inr (.inr 5)), (2, .inr (.inr 150)), (3, .inl (x3))]) (st1 := [.inl (0)]) (h1 := (px_G1, q229.2)) rfl ?_
          cases h
          exact px_D_iret rfl rfl ⟨rfl, rfl⟩
      rw [if_neg hc227] at h
      by_cases hc231 : (px_and (q3) (31)) = 23
      · rw [if_pos hc231] at h
        refine px_D_tsw (c := 23) rfl hc231 (by decide) rfl ?_
        refine px_D_st 5 (ip1 := 528) (ls1 := [(0, .inr (.inr 1)), (1, .inr (.inr 5)), (2, .inr (.inr 150)), (3, .inl (x3))]) (st1 := [.inl (px_wr (x3 + 1)), .inr (.inr 1), .inr (.inr 5)]) (h1 := (px_G1, s)) rfl ?_
        by_cases hc232 : 0 ≤ (px_wr (x3 + 1))
        case neg => rw [if_neg hc232] at h; cases h
        rw [if_pos hc232] at h
        obtain ⟨q233, hq233, h⟩ := Option.bind_eq_some_iff.mp h
        refine px_D_sld (j := px_wr (x3 + 1)) rfl hc232 hq233 ?_
        refine px_D_st 4 (ip1 := 533) (ls1 := [(0, .inr (.inr 1)), (1, .inr (.inr 5)), (2, .inr (.inr 150)), (3, .inl (x3))]) (st1 := [.inl (px_wr (x3 + 2)), .inr (.inr 1), .inl (q233), .inr (.inr 5)]) (h1 := (px_G1, s)) rfl ?_
        by_cases hc234 : 0 ≤ (px_wr (x3 + 2))
        case neg => rw [if_neg hc234] at h; cases h
        rw [if_pos hc234] at h
        obtain ⟨q235, hq235, h⟩ := Option.bind_eq_some_iff.mp h
        refine px_D_sld (j := px_wr (x3 + 2)) rfl hc234 hq235 ?_
        refine px_D_st 4 (ip1 := 538) (ls1 := [(0, .inr (.inr 1)), (1, .inr (.inr 5)), (2, .inr (.inr 150)), (3, .inl (x3))]) (st1 := [.inl (px_wr (x3 + 3)), .inr (.inr 1), .inl (q235), .inl (q233), .inr (.inr 5)]) (h1 := (px_G1, s)) rfl ?_
        by_cases hc236 : 0 ≤ (px_wr (x3 + 3))
        case neg => rw [if_neg hc236] at h; cases h
        rw [if_pos hc236] at h
        obtain ⟨q237, hq237, h⟩ := Option.bind_eq_some_iff.mp h
        refine px_D_sld (j := px_wr (x3 + 3)) rfl hc236 hq237 ?_
        refine px_D_st 4 (ip1 := 543) (ls1 := [(0, .inr (.inr 1)), (1, .inr (.inr 5)), (2, .inr (.inr 150)), (3, .inl (x3))]) (st1 := [.inl (px_wr (x3 + 4)), .inr (.inr 1), .inl (q237), .inl (q235), .inl (q233), .inr (.inr 5)]) (h1 := (px_G1, s)) rfl ?_
        by_cases hc238 : 0 ≤ (px_wr (x3 + 4))
        case neg => rw [if_neg hc238] at h; cases h
        rw [if_pos hc238] at h
        obtain ⟨q239, hq239, h⟩ := Option.bind_eq_some_iff.mp h
        refine px_D_sld (j := px_wr (x3 + 4)) rfl hc238 hq239 ?_
        refine px_D_call (as := [.inr (.inr 5), .inl (q233), .inl (q235), .inl (q237), .inl (q239)]) (rest := []) rfl rfl rfl rfl ?_
        obtain ⟨q240, hq240, h⟩ := Option.bind_eq_some_iff.mp h
        refine px_D_mono (c_R_cards (d := d + 194) hq240) ?_
        rintro _ _ ⟨rfl, rfl⟩
        show px_D sc (d + 196) 282 545 [(0, .inr (.inr 1)), (1, .inr (.inr 5)), (2, .inr (.inr 150)), (3, .inl (x3))] [.inr (.inl (q240))] (px_G1, s) _
        refine px_D_st 5 (ip1 := 550) (ls1 := [(0, .inr (.inr 1)), (1, .inr (.inr 5)), (2, .inr (.inr 150)), (3, .inl (x3))]) (st1 := [.inl (px_wr (x3 + 1)), .inr (.inr 1), .inr (.inr 150), .inr (.inl (q240))]) (h1 := (px_G1, s)) rfl ?_
        by_cases hc241 : 0 ≤ (px_wr (x3 + 1))
        case neg => rw [if_neg hc241] at h; cases h
        rw [if_pos hc241] at h
        obtain ⟨q242, hq242, h⟩ := Option.bind_eq_some_iff.mp h
        refine px_D_sld (j := px_wr (x3 + 1)) rfl hc241 hq242 ?_
        refine px_D_st 4 (ip1 := 555) (ls1 := [(0, .inr (.inr 1)), (1, .inr (.inr 5)), (2, .inr (.inr 150)), (3, .inl (x3))]) (st1 := [.inl (px_wr (x3 + 2)), .inr (.inr 1), .inl (q242), .inr (.inr 150), .inr (.inl (q240))]) (h1 := (px_G1, s)) rfl ?_
        by_cases hc243 : 0 ≤ (px_wr (x3 + 2))
        case neg => rw [if_neg hc243] at h; cases h
        rw [if_pos hc243] at h
        obtain ⟨q244, hq244, h⟩ := Option.bind_eq_some_iff.mp h
        refine px_D_sld (j := px_wr (x3 + 2)) rfl hc243 hq244 ?_
        refine px_D_st 4 (ip1 := 560) (ls1 := [(0, .inr (.inr 1)), (1, .inr (.inr 5)), (2, .inr (.inr 150)), (3, .inl (x3))]) (st1 := [.inl (px_wr (x3 + 3)), .inr (.inr 1), .inl (q244), .inl (q242), .inr (.inr 150), .inr (.inl (q240))]) (h1 := (px_G1, s)) rfl ?_
        by_cases hc245 : 0 ≤ (px_wr (x3 + 3))
        case neg => rw [if_neg hc245] at h; cases h
        rw [if_pos hc245] at h
        obtain ⟨q246, hq246, h⟩ := Option.bind_eq_some_iff.mp h
        refine px_D_sld (j := px_wr (x3 + 3)) rfl hc245 hq246 ?_
        refine px_D_st 4 (ip1 := 565) (ls1 := [(0, .inr (.inr 1)), (1, .inr (.inr 5)), (2, .inr (.inr 150)), (3, .inl (x3))]) (st1 := [.inl (px_wr (x3 + 4)), .inr (.inr 1), .inl (q246), .inl (q244), .inl (q242), .inr (.inr 150), .inr (.inl (q240))]) (h1 := (px_G1, s)) rfl ?_
        by_cases hc247 : 0 ≤ (px_wr (x3 + 4))
        case neg => rw [if_neg hc247] at h; cases h
        rw [if_pos hc247] at h
        obtain ⟨q248, hq248, h⟩ := Option.bind_eq_some_iff.mp h
        refine px_D_sld (j := px_wr (x3 + 4)) rfl hc247 hq248 ?_
        refine px_D_call (as := [.inr (.inr 150), .inl (q242), .inl (q244), .inl (q246), .inl (q248)]) (rest := [.inr (.inl (q240))]) rfl rfl rfl rfl ?_
        obtain ⟨q249, hq249, h⟩ := Option.bind_eq_some_iff.mp h
        refine px_D_mono (c_M_cards (d := d + 194) hq249) ?_
        rintro _ _ ⟨rfl, rfl⟩
        show px_D sc (d + 196) 282 567 [(0, .inr (.inr 1)), (1, .inr (.inr 5)), (2, .inr (.inr 150)), (3, .inl (x3))] [.inr (.inl (q249.1)), .inr (.inl (q240))] (px_G1, q249.2) _
        refine px_D_st 1 (ip1 := 568) (ls1 := [(0, .inr (.inr 1)), (1, .inr (.inr 5)), (2, .inr (.inr 150)), (3, .inl (x3))]) (st1 := [.inl ((if (q240) < (q249.1) then -1 else if (q240) = (q249.1) then 0 else 1))]) (h1 := (px_G1, q249.2)) rfl ?_
        refine px_D_ifc rfl (fun hc => ?_) (fun hc => ?_)
        · have hc250 : ((if (q240) < (q249.1) then -1 else if (q240) = (q249.1) then 0 else 1)) = (0) := of_decide_eq_true hc
          rw [if_pos hc250] at h
          refine px_D_st 2 (ip1 := 10) (ls1 := [(3, .inl (px_wr (x3 + 6))), (0, .inr (.inr 1)), (1, .inr (.inr 5)), (2, .inr (.inr 150))]) (st1 := []) (h1 := (px_G1, q249.2)) rfl ?_
          refine px_D_ls [(0, .inr (.inr 1)), (1, .inr (.inr 5)), (2, .inr (.inr 150)), (3, .inl (px_wr (x3 + 6)))] rfl rfl (List.forall_mem_cons.mpr ⟨rfl, List.forall_mem_cons.mpr ⟨rfl, List.forall_mem_cons.mpr ⟨rfl, List.forall_mem_cons.mpr ⟨rfl, fun _ h => absurd h List.not_mem_nil⟩⟩⟩⟩) ?_
          exact ih _ _ _ h
        · have hc250 : ¬ (((if (q240) < (q249.1) then -1 else if (q240) = (q249.1) then 0 else 1)) = (0)) := of_decide_eq_false hc
          rw [if_neg hc250] at h
          refine px_D_st 1 (ip1 := 570) (ls1 := [(0, .inr (.inr 1)), (1, .inr (.inr 5)), (2, .inr (.inr 150)), (3, .inl (x3))]) (st1 := [.inl (0)]) (h1 := (px_G1, q249.2)) rfl ?_
          cases h
          exact px_D_iret rfl rfl ⟨rfl, rfl⟩
      rw [if_neg hc231] at h
      by_cases hc251 : (px_and (q3) (31)) = 24
      · rw [if_pos hc251] at h
        refine px_D_tsw (c := 24) rfl hc251 (by decide) rfl ?_
        refine px_D_st 5 (ip1 := 576) (ls1 := [(0, .inr (.inr 1)), (1, .inr (.inr 5)), (2, .inr (.inr 150)), (3, .inl (x3))]) (st1 := [.inl (px_wr (x3 + 1)), .inr (.inr 1), .inr (.inr 5)]) (h1 := (px_G1, s)) rfl ?_
        by_cases hc252 : 0 ≤ (px_wr (x3 + 1))
        case neg => rw [if_neg hc252] at h; cases h
        rw [if_pos hc252] at h
        obtain ⟨q253, hq253, h⟩ := Option.bind_eq_some_iff.mp h
        refine px_D_sld (j := px_wr (x3 + 1)) rfl hc252 hq253 ?_
        refine px_D_st 4 (ip1 := 581) (ls1 := [(0, .inr (.inr 1)), (1, .inr (.inr 5)), (2, .inr (.inr 150)), (3, .inl (x3))]) (st1 := [.inl (px_wr (x3 + 2)), .inr (.inr 1), .inl (q253), .inr (.inr 5)]) (h1 := (px_G1, s)) rfl ?_
        by_cases hc254 : 0 ≤ (px_wr (x3 + 2))
        case neg => rw [if_neg hc254] at h; cases h
        rw [if_pos hc254] at h
        obtain ⟨q255, hq255, h⟩ := Option.bind_eq_some_iff.mp h
        refine px_D_sld (j := px_wr (x3 + 2)) rfl hc254 hq255 ?_
        refine px_D_st 4 (ip1 := 586) (ls1 := [(0, .inr (.inr 1)), (1, .inr (.inr 5)), (2, .inr (.inr 150)), (3, .inl (x3))]) (st1 := [.inl (px_wr (x3 + 3)), .inr (.inr 1), .inl (q255), .inl (q253), .inr (.inr 5)]) (h1 := (px_G1, s)) rfl ?_
        by_cases hc256 : 0 ≤ (px_wr (x3 + 3))
        case neg => rw [if_neg hc256] at h; cases h
        rw [if_pos hc256] at h
        obtain ⟨q257, hq257, h⟩ := Option.bind_eq_some_iff.mp h
        refine px_D_sld (j := px_wr (x3 + 3)) rfl hc256 hq257 ?_
        refine px_D_st 4 (ip1 := 591) (ls1 := [(0, .inr (.inr 1)), (1, .inr (.inr 5)), (2, .inr (.inr 150)), (3, .inl (x3))]) (st1 := [.inl (px_wr (x3 + 4)), .inr (.inr 1), .inl (q257), .inl (q255), .inl (q253), .inr (.inr 5)]) (h1 := (px_G1, s)) rfl ?_
        by_cases hc258 : 0 ≤ (px_wr (x3 + 4))
        case neg => rw [if_neg hc258] at h; cases h
        rw [if_pos hc258] at h
        obtain ⟨q259, hq259, h⟩ := Option.bind_eq_some_iff.mp h
        refine px_D_sld (j := px_wr (x3 + 4)) rfl hc258 hq259 ?_
        refine px_D_call (as := [.inr (.inr 5), .inl (q253), .inl (q255), .inl (q257), .inl (q259)]) (rest := []) rfl rfl rfl rfl ?_
        obtain ⟨q260, hq260, h⟩ := Option.bind_eq_some_iff.mp h
        refine px_D_mono (c_R_share (d := d + 194) hq260) ?_
        rintro _ _ ⟨rfl, rfl⟩
        show px_D sc (d + 196) 282 593 [(0, .inr (.inr 1)), (1, .inr (.inr 5)), (2, .inr (.inr 150)), (3, .inl (x3))] [.inl (q260)] (px_G1, s) _
        refine px_D_st 5 (ip1 := 598) (ls1 := [(0, .inr (.inr 1)), (1, .inr (.inr 5)), (2, .inr (.inr 150)), (3, .inl (x3))]) (st1 := [.inl (px_wr (x3 + 1)), .inr (.inr 1), .inr (.inr 150), .inl (q260)]) (h1 := (px_G1, s)) rfl ?_
        by_cases hc261 : 0 ≤ (px_wr (x3 + 1))
        case neg => rw [if_neg hc261] at h; cases h
        rw [if_pos hc261] at h
        obtain ⟨q262, hq262, h⟩ := Option.bind_eq_some_iff.mp h
        refine px_D_sld (j := px_wr (x3 + 1)) rfl hc261 hq262 ?_
        refine px_D_st 4 (ip1 := 603) (ls1 := [(0, .inr (.inr 1)), (1, .inr (.inr 5)), (2, .inr (.inr 150)), (3, .inl (x3))]) (st1 := [.inl (px_wr (x3 + 2)), .inr (.inr 1), .inl (q262), .inr (.inr 150), .inl (q260)]) (h1 := (px_G1, s)) rfl ?_
        by_cases hc263 : 0 ≤ (px_wr (x3 + 2))
        case neg => rw [if_neg hc263] at h; cases h
        rw [if_pos hc263] at h
        obtain ⟨q264, hq264, h⟩ := Option.bind_eq_some_iff.mp h
        refine px_D_sld (j := px_wr (x3 + 2)) rfl hc263 hq264 ?_
        refine px_D_st 4 (ip1 := 608) (ls1 := [(0, .inr (.inr 1)), (1, .inr (.inr 5)), (2, .inr (.inr 150)), (3, .inl (x3))]) (st1 := [.inl (px_wr (x3 + 3)), .inr (.inr 1), .inl (q264), .inl (q262), .inr (.inr 150), .inl (q260)]) (h1 := (px_G1, s)) rfl ?_
        by_cases hc265 : 0 ≤ (px_wr (x3 + 3))
        case neg => rw [if_neg hc265] at h; cases h
        rw [if_pos hc265] at h
        obtain ⟨q266, hq266, h⟩ := Option.bind_eq_some_iff.mp h
        refine px_D_sld (j := px_wr (x3 + 3)) rfl hc265 hq266 ?_
        refine px_D_st 4 (ip1 := 613) (ls1 := [(0, .inr (.inr 1)), (1, .inr (.inr 5)), (2, .inr (.inr 150)), (3, .inl (x3))]) (st1 := [.inl (px_wr (x3 + 4)), .inr (.inr 1), .inl (q266), .inl (q264), .inl (q262), .inr (.inr 150), .inl (q260)]) (h1 := (px_G1, s)) rfl ?_
        by_cases hc267 : 0 ≤ (px_wr (x3 + 4))
        case neg => rw [if_neg hc267] at h; cases h
        rw [if_pos hc267] at h
        obtain ⟨q268, hq268, h⟩ := Option.bind_eq_some_iff.mp h
        refine px_D_sld (j := px_wr (x3 + 4)) rfl hc267 hq268 ?_
        refine px_D_call (as := [.inr (.inr 150), .inl (q262), .inl (q264), .inl (q266), .inl (q268)]) (rest := [.inl (q260)]) rfl rfl rfl rfl ?_
        obtain ⟨q269, hq269, h⟩ := Option.bind_eq_some_iff.mp h
        refine px_D_mono (c_M_share (d := d + 194) hq269) ?_
        rintro _ _ ⟨rfl, rfl⟩
        show px_D sc (d + 196) 282 615 [(0, .inr (.inr 1)), (1, .inr (.inr 5)), (2, .inr (.inr 150)), (3, .inl (x3))] [.inl (q269.1), .inl (q260)] (px_G1, q269.2) _
        refine px_D_icmp rfl (fun hc => ?_) (fun hc => ?_)
        · have hc270 : (q260) = (q269.1) := of_decide_eq_true hc
          rw [if_pos hc270] at h
          refine px_D_st 2 (ip1 := 10) (ls1 := [(3, .inl (px_wr (x3 + 6))), (0, .inr (.inr 1)), (1, .inr (.inr 5)), (2, .inr (.inr 150))]) (st1 := []) (h1 := (px_G1, q269.2)) rfl ?_
          refine px_D_ls [(0, .inr (.inr 1)), (1, .inr (.inr 5)), (2, .inr (.inr 150)), (3, .inl (px_wr (x3 + 6)))] rfl rfl (List.forall_mem_cons.mpr ⟨rfl, List.forall_mem_cons.mpr ⟨rfl, List.forall_mem_cons.mpr ⟨rfl, List.forall_mem_cons.mpr ⟨rfl, fun _ h => absurd h List.not_mem_nil⟩⟩⟩⟩) ?_
          exact ih _ _ _ h
        · have hc270 : ¬ ((q260) = (q269.1)) := of_decide_eq_false hc
          rw [if_neg hc270] at h
          refine px_D_st 1 (ip1 := 617) (ls1 := [(0, .inr (.inr 1)), (1, .inr (.inr 5)), (2, .inr (.inr 150)), (3, .inl (x3))]) (st1 := [.inl (0)]) (h1 := (px_G1, q269.2)) rfl ?_
          cases h
          exact px_D_iret rfl rfl ⟨rfl, rfl⟩
      rw [if_neg hc251] at h
      by_cases hc271 : (px_and (q3) (31)) = 25
      · rw [if_pos hc271] at h
        refine px_D_tsw (c := 25) rfl hc271 (by decide) rfl ?_
        refine px_D_st 5 (ip1 := 623) (ls1 := [(0, .inr (.inr 1)), (1, .inr (.inr 5)), (2, .inr (.inr 150)), (3, .inl (x3))]) (st1 := [.inl (px_wr (x3 + 1)), .inr (.inr 1), .inr (.inr 5)]) (h1 := (px_G1, s)) rfl ?_
        by_cases hc272 : 0 ≤ (px_wr (x3 + 1))
        case neg => rw [if_neg hc272] at h; cases h
        rw [if_pos hc272] at h
        obtain ⟨q273, hq273, h⟩ := Option.bind_eq_some_iff.mp h
        refine px_D_sld (j := px_wr (x3 + 1)) rfl hc272 hq273 ?_
        refine px_D_st 4 (ip1 := 628) (ls1 := [(0, .inr (.inr 1)), (1, .inr (.inr 5)), (2, .inr (.inr 150)), (3, .inl (x3))]) (st1 := [.inl (px_wr (x3 + 2)), .inr (.inr 1), .inl (q273), .inr (.inr 5)]) (h1 := (px_G1, s)) rfl ?_
        by_cases hc274 : 0 ≤ (px_wr (x3 + 2))
        case neg => rw [if_neg hc274] at h; cases h
        rw [if_pos hc274] at h
        obtain ⟨q275, hq275, h⟩ := Option.bind_eq_some_iff.mp h
        refine px_D_sld (j := px_wr (x3 + 2)) rfl hc274 hq275 ?_
        refine px_D_call (as := [.inr (.inr 5), .inl (q273), .inl (q275)]) (rest := []) rfl rfl rfl rfl ?_
        obtain ⟨q276, hq276, h⟩ := Option.bind_eq_some_iff.mp h
        refine px_D_mono (c_R_errand (d := d + 194) hq276) ?_
        rintro _ _ ⟨rfl, rfl⟩
        show px_D sc (d + 196) 282 630 [(0, .inr (.inr 1)), (1, .inr (.inr 5)), (2, .inr (.inr 150)), (3, .inl (x3))] [.inl (q276.1)] (px_G1, q276.2) _
        refine px_D_st 5 (ip1 := 635) (ls1 := [(0, .inr (.inr 1)), (1, .inr (.inr 5)), (2, .inr (.inr 150)), (3, .inl (x3))]) (st1 := [.inl (px_wr (x3 + 1)), .inr (.inr 1), .inr (.inr 150), .inl (q276.1)]) (h1 := (px_G1, q276.2)) rfl ?_
        by_cases hc277 : 0 ≤ (px_wr (x3 + 1))
        case neg => rw [if_neg hc277] at h; cases h
        rw [if_pos hc277] at h
        obtain ⟨q278, hq278, h⟩ := Option.bind_eq_some_iff.mp h
        refine px_D_sld (j := px_wr (x3 + 1)) rfl hc277 hq278 ?_
        refine px_D_st 4 (ip1 := 640) (ls1 := [(0, .inr (.inr 1)), (1, .inr (.inr 5)), (2, .inr (.inr 150)), (3, .inl (x3))]) (st1 := [.inl (px_wr (x3 + 2)), .inr (.inr 1), .inl (q278), .inr (.inr 150), .inl (q276.1)]) (h1 := (px_G1, q276.2)) rfl ?_
        by_cases hc279 : 0 ≤ (px_wr (x3 + 2))
        case neg => rw [if_neg hc279] at h; cases h
        rw [if_pos hc279] at h
        obtain ⟨q280, hq280, h⟩ := Option.bind_eq_some_iff.mp h
        refine px_D_sld (j := px_wr (x3 + 2)) rfl hc279 hq280 ?_
        refine px_D_call (as := [.inr (.inr 150), .inl (q278), .inl (q280)]) (rest := [.inl (q276.1)]) rfl rfl rfl rfl ?_
        obtain ⟨q281, hq281, h⟩ := Option.bind_eq_some_iff.mp h
        refine px_D_mono (c_M_errand (d := d + 194) hq281) ?_
        rintro _ _ ⟨rfl, rfl⟩
        show px_D sc (d + 196) 282 642 [(0, .inr (.inr 1)), (1, .inr (.inr 5)), (2, .inr (.inr 150)), (3, .inl (x3))] [.inl (q281.1), .inl (q276.1)] (px_G1, q281.2) _
        refine px_D_icmp rfl (fun hc => ?_) (fun hc => ?_)
        · have hc282 : (q276.1) = (q281.1) := of_decide_eq_true hc
          rw [if_pos hc282] at h
          refine px_D_st 2 (ip1 := 10) (ls1 := [(3, .inl (px_wr (x3 + 6))), (0, .inr (.inr 1)), (1, .inr (.inr 5)), (2, .inr (.inr 150))]) (st1 := []) (h1 := (px_G1, q281.2)) rfl ?_
          refine px_D_ls [(0, .inr (.inr 1)), (1, .inr (.inr 5)), (2, .inr (.inr 150)), (3, .inl (px_wr (x3 + 6)))] rfl rfl (List.forall_mem_cons.mpr ⟨rfl, List.forall_mem_cons.mpr ⟨rfl, List.forall_mem_cons.mpr ⟨rfl, List.forall_mem_cons.mpr ⟨rfl, fun _ h => absurd h List.not_mem_nil⟩⟩⟩⟩) ?_
          exact ih _ _ _ h
        · have hc282 : ¬ ((q276.1) = (q281.1)) := of_decide_eq_false hc
          rw [if_neg hc282] at h
          refine px_D_st 1 (ip1 := 644) (ls1 := [(0, .inr (.inr 1)), (1, .inr (.inr 5)), (2, .inr (.inr 150)), (3, .inl (x3))]) (st1 := [.inl (0)]) (h1 := (px_G1, q281.2)) rfl ?_
          cases h
          exact px_D_iret rfl rfl ⟨rfl, rfl⟩
      rw [if_neg hc271] at h
      by_cases hc283 : (px_and (q3) (31)) = 26
      · rw [if_pos hc283] at h
        refine px_D_tsw (c := 26) rfl hc283 (by decide) rfl ?_
        refine px_D_st 5 (ip1 := 650) (ls1 := [(0, .inr (.inr 1)), (1, .inr (.inr 5)), (2, .inr (.inr 150)), (3, .inl (x3))]) (st1 := [.inl (px_wr (x3 + 1)), .inr (.inr 1), .inr (.inr 5)]) (h1 := (px_G1, s)) rfl ?_
        by_cases hc284 : 0 ≤ (px_wr (x3 + 1))
        case neg => rw [if_neg hc284] at h; cases h
        rw [if_pos hc284] at h
        obtain ⟨q285, hq285, h⟩ := Option.bind_eq_some_iff.mp h
        refine px_D_sld (j := px_wr (x3 + 1)) rfl hc284 hq285 ?_
        refine px_D_call (as := [.inr (.inr 5), .inl (q285)]) (rest := []) rfl rfl rfl rfl ?_
        obtain ⟨q286, hq286, h⟩ := Option.bind_eq_some_iff.mp h
        refine px_D_mono (c_R_messengers (d := d + 192) hq286) ?_
        rintro _ _ ⟨rfl, rfl⟩
        show px_D sc (d + 196) 282 652 [(0, .inr (.inr 1)), (1, .inr (.inr 5)), (2, .inr (.inr 150)), (3, .inl (x3))] [.inl (q286)] (px_G1, s) _
        refine px_D_st 5 (ip1 := 657) (ls1 := [(0, .inr (.inr 1)), (1, .inr (.inr 5)), (2, .inr (.inr 150)), (3, .inl (x3))]) (st1 := [.inl (px_wr (x3 + 1)), .inr (.inr 1), .inr (.inr 150), .inl (q286)]) (h1 := (px_G1, s)) rfl ?_
        by_cases hc287 : 0 ≤ (px_wr (x3 + 1))
        case neg => rw [if_neg hc287] at h; cases h
        rw [if_pos hc287] at h
        obtain ⟨q288, hq288, h⟩ := Option.bind_eq_some_iff.mp h
        refine px_D_sld (j := px_wr (x3 + 1)) rfl hc287 hq288 ?_
        refine px_D_call (as := [.inr (.inr 150), .inl (q288)]) (rest := [.inl (q286)]) rfl rfl rfl rfl ?_
        obtain ⟨q289, hq289, h⟩ := Option.bind_eq_some_iff.mp h
        refine px_D_mono (c_M_messengers (d := d + 193) hq289) ?_
        rintro _ _ ⟨rfl, rfl⟩
        show px_D sc (d + 196) 282 659 [(0, .inr (.inr 1)), (1, .inr (.inr 5)), (2, .inr (.inr 150)), (3, .inl (x3))] [.inl (q289.1), .inl (q286)] (px_G1, q289.2) _
        refine px_D_icmp rfl (fun hc => ?_) (fun hc => ?_)
        · have hc290 : (q286) = (q289.1) := of_decide_eq_true hc
          rw [if_pos hc290] at h
          refine px_D_st 2 (ip1 := 10) (ls1 := [(3, .inl (px_wr (x3 + 6))), (0, .inr (.inr 1)), (1, .inr (.inr 5)), (2, .inr (.inr 150))]) (st1 := []) (h1 := (px_G1, q289.2)) rfl ?_
          refine px_D_ls [(0, .inr (.inr 1)), (1, .inr (.inr 5)), (2, .inr (.inr 150)), (3, .inl (px_wr (x3 + 6)))] rfl rfl (List.forall_mem_cons.mpr ⟨rfl, List.forall_mem_cons.mpr ⟨rfl, List.forall_mem_cons.mpr ⟨rfl, List.forall_mem_cons.mpr ⟨rfl, fun _ h => absurd h List.not_mem_nil⟩⟩⟩⟩) ?_
          exact ih _ _ _ h
        · have hc290 : ¬ ((q286) = (q289.1)) := of_decide_eq_false hc
          rw [if_neg hc290] at h
          refine px_D_st 1 (ip1 := 661) (ls1 := [(0, .inr (.inr 1)), (1, .inr (.inr 5)), (2, .inr (.inr 150)), (3, .inl (x3))]) (st1 := [.inl (0)]) (h1 := (px_G1, q289.2)) rfl ?_
          cases h
          exact px_D_iret rfl rfl ⟨rfl, rfl⟩
      rw [if_neg hc283] at h
      by_cases hc291 : (px_and (q3) (31)) = 27
      · rw [if_pos hc291] at h
        refine px_D_tsw (c := 27) rfl hc291 (by decide) rfl ?_
        refine px_D_st 5 (ip1 := 667) (ls1 := [(0, .inr (.inr 1)), (1, .inr (.inr 5)), (2, .inr (.inr 150)), (3, .inl (x3))]) (st1 := [.inl (px_wr (x3 + 1)), .inr (.inr 1), .inr (.inr 5)]) (h1 := (px_G1, s)) rfl ?_
        by_cases hc292 : 0 ≤ (px_wr (x3 + 1))
        case neg => rw [if_neg hc292] at h; cases h
        rw [if_pos hc292] at h
        obtain ⟨q293, hq293, h⟩ := Option.bind_eq_some_iff.mp h
        refine px_D_sld (j := px_wr (x3 + 1)) rfl hc292 hq293 ?_
        refine px_D_call (as := [.inr (.inr 5), .inl (q293)]) (rest := []) rfl rfl rfl rfl ?_
        obtain ⟨q294, hq294, h⟩ := Option.bind_eq_some_iff.mp h
        refine px_D_mono (c_R_hit (d := d + 188) hq294) ?_
        rintro _ _ ⟨rfl, rfl⟩
        show px_D sc (d + 196) 282 669 [(0, .inr (.inr 1)), (1, .inr (.inr 5)), (2, .inr (.inr 150)), (3, .inl (x3))] [.inl (q294.1)] (px_G1, q294.2) _
        refine px_D_st 5 (ip1 := 674) (ls1 := [(0, .inr (.inr 1)), (1, .inr (.inr 5)), (2, .inr (.inr 150)), (3, .inl (x3))]) (st1 := [.inl (px_wr (x3 + 1)), .inr (.inr 1), .inr (.inr 150), .inl (q294.1)]) (h1 := (px_G1, q294.2)) rfl ?_
        by_cases hc295 : 0 ≤ (px_wr (x3 + 1))
        case neg => rw [if_neg hc295] at h; cases h
        rw [if_pos hc295] at h
        obtain ⟨q296, hq296, h⟩ := Option.bind_eq_some_iff.mp h
        refine px_D_sld (j := px_wr (x3 + 1)) rfl hc295 hq296 ?_
        refine px_D_call (as := [.inr (.inr 150), .inl (q296)]) (rest := [.inl (q294.1)]) rfl rfl rfl rfl ?_
        obtain ⟨q297, hq297, h⟩ := Option.bind_eq_some_iff.mp h
        refine px_D_mono (c_M_hit (d := d + 185) hq297) ?_
        rintro _ _ ⟨rfl, rfl⟩
        show px_D sc (d + 196) 282 676 [(0, .inr (.inr 1)), (1, .inr (.inr 5)), (2, .inr (.inr 150)), (3, .inl (x3))] [.inl (q297.1), .inl (q294.1)] (px_G1, q297.2) _
        refine px_D_icmp rfl (fun hc => ?_) (fun hc => ?_)
        · have hc298 : (q294.1) = (q297.1) := of_decide_eq_true hc
          rw [if_pos hc298] at h
          refine px_D_st 2 (ip1 := 10) (ls1 := [(3, .inl (px_wr (x3 + 6))), (0, .inr (.inr 1)), (1, .inr (.inr 5)), (2, .inr (.inr 150))]) (st1 := []) (h1 := (px_G1, q297.2)) rfl ?_
          refine px_D_ls [(0, .inr (.inr 1)), (1, .inr (.inr 5)), (2, .inr (.inr 150)), (3, .inl (px_wr (x3 + 6)))] rfl rfl (List.forall_mem_cons.mpr ⟨rfl, List.forall_mem_cons.mpr ⟨rfl, List.forall_mem_cons.mpr ⟨rfl, List.forall_mem_cons.mpr ⟨rfl, fun _ h => absurd h List.not_mem_nil⟩⟩⟩⟩) ?_
          exact ih _ _ _ h
        · have hc298 : ¬ ((q294.1) = (q297.1)) := of_decide_eq_false hc
          rw [if_neg hc298] at h
          refine px_D_st 1 (ip1 := 678) (ls1 := [(0, .inr (.inr 1)), (1, .inr (.inr 5)), (2, .inr (.inr 150)), (3, .inl (x3))]) (st1 := [.inl (0)]) (h1 := (px_G1, q297.2)) rfl ?_
          cases h
          exact px_D_iret rfl rfl ⟨rfl, rfl⟩
      rw [if_neg hc291] at h
      by_cases hc299 : (px_and (q3) (31)) = 28
      · rw [if_pos hc299] at h
        refine px_D_tsw (c := 28) rfl hc299 (by decide) rfl ?_
        refine px_D_st 1 (ip1 := 680) (ls1 := [(0, .inr (.inr 1)), (1, .inr (.inr 5)), (2, .inr (.inr 150)), (3, .inl (x3))]) (st1 := [.inr (.inr 5)]) (h1 := (px_G1, s)) rfl ?_
        refine px_D_call (as := [.inr (.inr 5)]) (rest := []) rfl rfl rfl rfl ?_
        obtain ⟨q300, hq300, h⟩ := Option.bind_eq_some_iff.mp h
        refine px_D_mono (c_R_undo (d := d + 193) hq300) ?_
        rintro _ _ ⟨rfl, rfl⟩
        show px_D sc (d + 196) 282 681 [(0, .inr (.inr 1)), (1, .inr (.inr 5)), (2, .inr (.inr 150)), (3, .inl (x3))] [.inl (q300.1)] (px_G1, q300.2) _
        refine px_D_st 1 (ip1 := 682) (ls1 := [(0, .inr (.inr 1)), (1, .inr (.inr 5)), (2, .inr (.inr 150)), (3, .inl (x3))]) (st1 := [.inr (.inr 150), .inl (q300.1)]) (h1 := (px_G1, q300.2)) rfl ?_
        refine px_D_call (as := [.inr (.inr 150)]) (rest := [.inl (q300.1)]) rfl rfl rfl rfl ?_
        obtain ⟨q301, hq301, h⟩ := Option.bind_eq_some_iff.mp h
        refine px_D_mono (c_M_undo (d := d + 195) hq301) ?_
        rintro _ _ ⟨rfl, rfl⟩
        show px_D sc (d + 196) 282 683 [(0, .inr (.inr 1)), (1, .inr (.inr 5)), (2, .inr (.inr 150)), (3, .inl (x3))] [.inl (q301.1), .inl (q300.1)] (px_G1, q301.2) _
        refine px_D_icmp rfl (fun hc => ?_) (fun hc => ?_)
        · have hc302 : (q300.1) = (q301.1) := of_decide_eq_true hc
          rw [if_pos hc302] at h
          refine px_D_st 2 (ip1 := 10) (ls1 := [(3, .inl (px_wr (x3 + 6))), (0, .inr (.inr 1)), (1, .inr (.inr 5)), (2, .inr (.inr 150))]) (st1 := []) (h1 := (px_G1, q301.2)) rfl ?_
          refine px_D_ls [(0, .inr (.inr 1)), (1, .inr (.inr 5)), (2, .inr (.inr 150)), (3, .inl (px_wr (x3 + 6)))] rfl rfl (List.forall_mem_cons.mpr ⟨rfl, List.forall_mem_cons.mpr ⟨rfl, List.forall_mem_cons.mpr ⟨rfl, List.forall_mem_cons.mpr ⟨rfl, fun _ h => absurd h List.not_mem_nil⟩⟩⟩⟩) ?_
          exact ih _ _ _ h
        · have hc302 : ¬ ((q300.1) = (q301.1)) := of_decide_eq_false hc
          rw [if_neg hc302] at h
          refine px_D_st 1 (ip1 := 685) (ls1 := [(0, .inr (.inr 1)), (1, .inr (.inr 5)), (2, .inr (.inr 150)), (3, .inl (x3))]) (st1 := [.inl (0)]) (h1 := (px_G1, q301.2)) rfl ?_
          cases h
          exact px_D_iret rfl rfl ⟨rfl, rfl⟩
      rw [if_neg hc299] at h
      by_cases hc303 : (px_and (q3) (31)) = 29
      · rw [if_pos hc303] at h
        refine px_D_tsw (c := 29) rfl hc303 (by decide) rfl ?_
        refine px_D_st 5 (ip1 := 691) (ls1 := [(0, .inr (.inr 1)), (1, .inr (.inr 5)), (2, .inr (.inr 150)), (3, .inl (x3))]) (st1 := [.inl (px_wr (x3 + 1)), .inr (.inr 1), .inr (.inr 5)]) (h1 := (px_G1, s)) rfl ?_
        by_cases hc304 : 0 ≤ (px_wr (x3 + 1))
        case neg => rw [if_neg hc304] at h; cases h
        rw [if_pos hc304] at h
        obtain ⟨q305, hq305, h⟩ := Option.bind_eq_some_iff.mp h
        refine px_D_sld (j := px_wr (x3 + 1)) rfl hc304 hq305 ?_
        refine px_D_ifc rfl (fun hc => ?_) (fun hc => ?_)
        · have hc306 : (q305) = (0) := of_decide_eq_true hc
          rw [if_pos hc306] at h
          refine px_D_st 1 (ip1 := 696) (ls1 := [(0, .inr (.inr 1)), (1, .inr (.inr 5)), (2, .inr (.inr 150)), (3, .inl (x3))]) (st1 := [.inl (0), .inr (.inr 5)]) (h1 := (px_G1, s)) rfl ?_
          refine px_D_call (as := [.inr (.inr 5), .inl (0)]) (rest := []) rfl rfl rfl rfl ?_
          obtain ⟨q307, hq307, h⟩ := Option.bind_eq_some_iff.mp h
          refine px_D_mono (c_R_image (d := d + 193) hq307) ?_
          rintro _ _ ⟨rfl, rfl⟩
          show px_D sc (d + 196) 282 697 [(0, .inr (.inr 1)), (1, .inr (.inr 5)), (2, .inr (.inr 150)), (3, .inl (x3))] [.inl (q307.1)] (px_G1, q307.2) _
          refine px_D_st 5 (ip1 := 702) (ls1 := [(0, .inr (.inr 1)), (1, .inr (.inr 5)), (2, .inr (.inr 150)), (3, .inl (x3))]) (st1 := [.inl (px_wr (x3 + 1)), .inr (.inr 1), .inr (.inr 150), .inl (q307.1)]) (h1 := (px_G1, q307.2)) rfl ?_
          by_cases hc308 : 0 ≤ (px_wr (x3 + 1))
          case neg => rw [if_neg hc308] at h; cases h
          rw [if_pos hc308] at h
          obtain ⟨q309, hq309, h⟩ := Option.bind_eq_some_iff.mp h
          refine px_D_sld (j := px_wr (x3 + 1)) rfl hc308 hq309 ?_
          refine px_D_ifc rfl (fun hc => ?_) (fun hc => ?_)
          · have hc310 : (q309) = (0) := of_decide_eq_true hc
            rw [if_pos hc310] at h
            refine px_D_st 1 (ip1 := 707) (ls1 := [(0, .inr (.inr 1)), (1, .inr (.inr 5)), (2, .inr (.inr 150)), (3, .inl (x3))]) (st1 := [.inl (0), .inr (.inr 150), .inl (q307.1)]) (h1 := (px_G1, q307.2)) rfl ?_
            refine px_D_call (as := [.inr (.inr 150), .inl (0)]) (rest := [.inl (q307.1)]) rfl rfl rfl rfl ?_
            obtain ⟨q311, hq311, h⟩ := Option.bind_eq_some_iff.mp h
            refine px_D_mono (c_M_image (d := d + 193) hq311) ?_
            rintro _ _ ⟨rfl, rfl⟩
            show px_D sc (d + 196) 282 708 [(0, .inr (.inr 1)), (1, .inr (.inr 5)), (2, .inr (.inr 150)), (3, .inl (x3))] [.inl (q311.1), .inl (q307.1)] (px_G1, q311.2) _
            refine px_D_icmp rfl (fun hc => ?_) (fun hc => ?_)
            · have hc312 : (q307.1) = (q311.1) := of_decide_eq_true hc
              rw [if_pos hc312] at h
              refine px_D_st 2 (ip1 := 10) (ls1 := [(3, .inl (px_wr (x3 + 6))), (0, .inr (.inr 1)), (1, .inr (.inr 5)), (2, .inr (.inr 150))]) (st1 := []) (h1 := (px_G1, q311.2)) rfl ?_
              refine px_D_ls [(0, .inr (.inr 1)), (1, .inr (.inr 5)), (2, .inr (.inr 150)), (3, .inl (px_wr (x3 + 6)))] rfl rfl (List.forall_mem_cons.mpr ⟨rfl, List.forall_mem_cons.mpr ⟨rfl, List.forall_mem_cons.mpr ⟨rfl, List.forall_mem_cons.mpr ⟨rfl, fun _ h => absurd h List.not_mem_nil⟩⟩⟩⟩) ?_
              exact ih _ _ _ h
            · have hc312 : ¬ ((q307.1) = (q311.1)) := of_decide_eq_false hc
              rw [if_neg hc312] at h
              refine px_D_st 1 (ip1 := 710) (ls1 := [(0, .inr (.inr 1)), (1, .inr (.inr 5)), (2, .inr (.inr 150)), (3, .inl (x3))]) (st1 := [.inl (0)]) (h1 := (px_G1, q311.2)) rfl ?_
              cases h
              exact px_D_iret rfl rfl ⟨rfl, rfl⟩
          · have hc310 : ¬ ((q309) = (0)) := of_decide_eq_false hc
            rw [if_neg hc310] at h
            refine px_D_st 2 (ip1 := 707) (ls1 := [(0, .inr (.inr 1)), (1, .inr (.inr 5)), (2, .inr (.inr 150)), (3, .inl (x3))]) (st1 := [.inl (1), .inr (.inr 150), .inl (q307.1)]) (h1 := (px_G1, q307.2)) rfl ?_
            refine px_D_call (as := [.inr (.inr 150), .inl (1)]) (rest := [.inl (q307.1)]) rfl rfl rfl rfl ?_
            obtain ⟨q313, hq313, h⟩ := Option.bind_eq_some_iff.mp h
            refine px_D_mono (c_M_image (d := d + 193) hq313) ?_
            rintro _ _ ⟨rfl, rfl⟩
            show px_D sc (d + 196) 282 708 [(0, .inr (.inr 1)), (1, .inr (.inr 5)), (2, .inr (.inr 150)), (3, .inl (x3))] [.inl (q313.1), .inl (q307.1)] (px_G1, q313.2) _
            refine px_D_icmp rfl (fun hc => ?_) (fun hc => ?_)
            · have hc314 : (q307.1) = (q313.1) := of_decide_eq_true hc
              rw [if_pos hc314] at h
              refine px_D_st 2 (ip1 := 10) (ls1 := [(3, .inl (px_wr (x3 + 6))), (0, .inr (.inr 1)), (1, .inr (.inr 5)), (2, .inr (.inr 150))]) (st1 := []) (h1 := (px_G1, q313.2)) rfl ?_
              refine px_D_ls [(0, .inr (.inr 1)), (1, .inr (.inr 5)), (2, .inr (.inr 150)), (3, .inl (px_wr (x3 + 6)))] rfl rfl (List.forall_mem_cons.mpr ⟨rfl, List.forall_mem_cons.mpr ⟨rfl, List.forall_mem_cons.mpr ⟨rfl, List.forall_mem_cons.mpr ⟨rfl, fun _ h => absurd h List.not_mem_nil⟩⟩⟩⟩) ?_
              exact ih _ _ _ h
            · have hc314 : ¬ ((q307.1) = (q313.1)) := of_decide_eq_false hc
              rw [if_neg hc314] at h
              refine px_D_st 1 (ip1 := 710) (ls1 := [(0, .inr (.inr 1)), (1, .inr (.inr 5)), (2, .inr (.inr 150)), (3, .inl (x3))]) (st1 := [.inl (0)]) (h1 := (px_G1, q313.2)) rfl ?_
              cases h
              exact px_D_iret rfl rfl ⟨rfl, rfl⟩
        · have hc306 : ¬ ((q305) = (0)) := of_decide_eq_false hc
          rw [if_neg hc306] at h
          refine px_D_st 2 (ip1 := 696) (ls1 := [(0, .inr (.inr 1)), (1, .inr (.inr 5)), (2, .inr (.inr 150)), (3, .inl (x3))]) (st1 := [.inl (1), .inr (.inr 5)]) (h1 := (px_G1, s)) rfl ?_
          refine px_D_call (as := [.inr (.inr 5), .inl (1)]) (rest := []) rfl rfl rfl rfl ?_
          obtain ⟨q315, hq315, h⟩ := Option.bind_eq_some_iff.mp h
          refine px_D_mono (c_R_image (d := d + 193) hq315) ?_
          rintro _ _ ⟨rfl, rfl⟩
          show px_D sc (d + 196) 282 697 [(0, .inr (.inr 1)), (1, .inr (.inr 5)), (2, .inr (.inr 150)), (3, .inl (x3))] [.inl (q315.1)] (px_G1, q315.2) _
          refine px_D_st 5 (ip1 := 702) (ls1 := [(0, .inr (.inr 1)), (1, .inr (.inr 5)), (2, .inr (.inr 150)), (3, .inl (x3))]) (st1 := [.inl (px_wr (x3 + 1)), .inr (.inr 1), .inr (.inr 150), .inl (q315.1)]) (h1 := (px_G1, q315.2)) rfl ?_
          by_cases hc316 : 0 ≤ (px_wr (x3 + 1))
          case neg => rw [if_neg hc316] at h; cases h
          rw [if_pos hc316] at h
          obtain ⟨q317, hq317, h⟩ := Option.bind_eq_some_iff.mp h
          refine px_D_sld (j := px_wr (x3 + 1)) rfl hc316 hq317 ?_
          refine px_D_ifc rfl (fun hc => ?_) (fun hc => ?_)
          · have hc318 : (q317) = (0) := of_decide_eq_true hc
            rw [if_pos hc318] at h
            refine px_D_st 1 (ip1 := 707) (ls1 := [(0, .inr (.inr 1)), (1, .inr (.inr 5)), (2, .inr (.inr 150)), (3, .inl (x3))]) (st1 := [.inl (0), .inr (.inr 150), .inl (q315.1)]) (h1 := (px_G1, q315.2)) rfl ?_
            refine px_D_call (as := [.inr (.inr 150), .inl (0)]) (rest := [.inl (q315.1)]) rfl rfl rfl rfl ?_
            obtain ⟨q319, hq319, h⟩ := Option.bind_eq_some_iff.mp h
            refine px_D_mono (c_M_image (d := d + 193) hq319) ?_
            rintro _ _ ⟨rfl, rfl⟩
            show px_D sc (d + 196) 282 708 [(0, .inr (.inr 1)), (1, .inr (.inr 5)), (2, .inr (.inr 150)), (3, .inl (x3))] [.inl (q319.1), .inl (q315.1)] (px_G1, q319.2) _
            refine px_D_icmp rfl (fun hc => ?_) (fun hc => ?_)
            · have hc320 : (q315.1) = (q319.1) := of_decide_eq_true hc
              rw [if_pos hc320] at h
              refine px_D_st 2 (ip1 := 10) (ls1 := [(3, .inl (px_wr (x3 + 6))), (0, .inr (.inr 1)), (1, .inr (.inr 5)), (2, .inr (.inr 150))]) (st1 := []) (h1 := (px_G1, q319.2)) rfl ?_
              refine px_D_ls [(0, .inr (.inr 1)), (1, .inr (.inr 5)), (2, .inr (.inr 150)), (3, .inl (px_wr (x3 + 6)))] rfl rfl (List.forall_mem_cons.mpr ⟨rfl, List.forall_mem_cons.mpr ⟨rfl, List.forall_mem_cons.mpr ⟨rfl, List.forall_mem_cons.mpr ⟨rfl, fun _ h => absurd h List.not_mem_nil⟩⟩⟩⟩) ?_
              exact ih _ _ _ h
            · have hc320 : ¬ ((q315.1) = (q319.1)) := of_decide_eq_false hc
              rw [if_neg hc320] at h
              refine px_D_st 1 (ip1 := 710) (ls1 := [(0, .inr (.inr 1)), (1, .inr (.inr 5)), (2, .inr (.inr 150)), (3, .inl (x3))]) (st1 := [.inl (0)]) (h1 := (px_G1, q319.2)) rfl ?_
              cases h
              exact px_D_iret rfl rfl ⟨rfl, rfl⟩
          · have hc318 : ¬ ((q317) = (0)) := of_decide_eq_false hc
            rw [if_neg hc318] at h
            refine px_D_st 2 (ip1 := 707) (ls1 := [(0, .inr (.inr 1)), (1, .inr (.inr 5)), (2, .inr (.inr 150)), (3, .inl (x3))]) (st1 := [.inl (1), .inr (.inr 150), .inl (q315.1)]) (h1 := (px_G1, q315.2)) rfl ?_
            refine px_D_call (as := [.inr (.inr 150), .inl (1)]) (rest := [.inl (q315.1)]) rfl rfl rfl rfl ?_
            obtain ⟨q321, hq321, h⟩ := Option.bind_eq_some_iff.mp h
            refine px_D_mono (c_M_image (d := d + 193) hq321) ?_
            rintro _ _ ⟨rfl, rfl⟩
            show px_D sc (d + 196) 282 708 [(0, .inr (.inr 1)), (1, .inr (.inr 5)), (2, .inr (.inr 150)), (3, .inl (x3))] [.inl (q321.1), .inl (q315.1)] (px_G1, q321.2) _
            refine px_D_icmp rfl (fun hc => ?_) (fun hc => ?_)
            · have hc322 : (q315.1) = (q321.1) := of_decide_eq_true hc
              rw [if_pos hc322] at h
              refine px_D_st 2 (ip1 := 10) (ls1 := [(3, .inl (px_wr (x3 + 6))), (0, .inr (.inr 1)), (1, .inr (.inr 5)), (2, .inr (.inr 150))]) (st1 := []) (h1 := (px_G1, q321.2)) rfl ?_
              refine px_D_ls [(0, .inr (.inr 1)), (1, .inr (.inr 5)), (2, .inr (.inr 150)), (3, .inl (px_wr (x3 + 6)))] rfl rfl (List.forall_mem_cons.mpr ⟨rfl, List.forall_mem_cons.mpr ⟨rfl, List.forall_mem_cons.mpr ⟨rfl, List.forall_mem_cons.mpr ⟨rfl, fun _ h => absurd h List.not_mem_nil⟩⟩⟩⟩) ?_
              exact ih _ _ _ h
            · have hc322 : ¬ ((q315.1) = (q321.1)) := of_decide_eq_false hc
              rw [if_neg hc322] at h
              refine px_D_st 1 (ip1 := 710) (ls1 := [(0, .inr (.inr 1)), (1, .inr (.inr 5)), (2, .inr (.inr 150)), (3, .inl (x3))]) (st1 := [.inl (0)]) (h1 := (px_G1, q321.2)) rfl ?_
              cases h
              exact px_D_iret rfl rfl ⟨rfl, rfl⟩
      rw [if_neg hc303] at h
      by_cases hc323 : (px_and (q3) (31)) = 30
      · rw [if_pos hc323] at h
        refine px_D_tsw (c := 30) rfl hc323 (by decide) rfl ?_
        refine px_D_st 5 (ip1 := 716) (ls1 := [(0, .inr (.inr 1)), (1, .inr (.inr 5)), (2, .inr (.inr 150)), (3, .inl (x3))]) (st1 := [.inl (px_wr (x3 + 1)), .inr (.inr 1), .inr (.inr 5)]) (h1 := (px_G1, s)) rfl ?_
        by_cases hc324 : 0 ≤ (px_wr (x3 + 1))
        case neg => rw [if_neg hc324] at h; cases h
        rw [if_pos hc324] at h
        obtain ⟨q325, hq325, h⟩ := Option.bind_eq_some_iff.mp h
        refine px_D_sld (j := px_wr (x3 + 1)) rfl hc324 hq325 ?_
        refine px_D_call (as := [.inr (.inr 5), .inl (q325)]) (rest := []) rfl rfl rfl rfl ?_
        obtain ⟨q326, hq326, h⟩ := Option.bind_eq_some_iff.mp h
        refine px_D_mono (c_R_look (d := d + 194) hq326) ?_
        rintro _ _ ⟨rfl, rfl⟩
        show px_D sc (d + 196) 282 718 [(0, .inr (.inr 1)), (1, .inr (.inr 5)), (2, .inr (.inr 150)), (3, .inl (x3))] [.inl (q326)] (px_G1, s) _
        refine px_D_st 5 (ip1 := 723) (ls1 := [(0, .inr (.inr 1)), (1, .inr (.inr 5)), (2, .inr (.inr 150)), (3, .inl (x3))]) (st1 := [.inl (px_wr (x3 + 1)), .inr (.inr 1), .inr (.inr 150), .inl (q326)]) (h1 := (px_G1, s)) rfl ?_
        by_cases hc327 : 0 ≤ (px_wr (x3 + 1))
        case neg => rw [if_neg hc327] at h; cases h
        rw [if_pos hc327] at h
        obtain ⟨q328, hq328, h⟩ := Option.bind_eq_some_iff.mp h
        refine px_D_sld (j := px_wr (x3 + 1)) rfl hc327 hq328 ?_
        refine px_D_call (as := [.inr (.inr 150), .inl (q328)]) (rest := [.inl (q326)]) rfl rfl rfl rfl ?_
        obtain ⟨q329, hq329, h⟩ := Option.bind_eq_some_iff.mp h
        refine px_D_mono (c_M_look (d := d + 193) hq329) ?_
        rintro _ _ ⟨rfl, rfl⟩
        show px_D sc (d + 196) 282 725 [(0, .inr (.inr 1)), (1, .inr (.inr 5)), (2, .inr (.inr 150)), (3, .inl (x3))] [.inl (q329.1), .inl (q326)] (px_G1, q329.2) _
        refine px_D_icmp rfl (fun hc => ?_) (fun hc => ?_)
        · have hc330 : (q326) = (q329.1) := of_decide_eq_true hc
          rw [if_pos hc330] at h
          refine px_D_st 2 (ip1 := 10) (ls1 := [(3, .inl (px_wr (x3 + 6))), (0, .inr (.inr 1)), (1, .inr (.inr 5)), (2, .inr (.inr 150))]) (st1 := []) (h1 := (px_G1, q329.2)) rfl ?_
          refine px_D_ls [(0, .inr (.inr 1)), (1, .inr (.inr 5)), (2, .inr (.inr 150)), (3, .inl (px_wr (x3 + 6)))] rfl rfl (List.forall_mem_cons.mpr ⟨rfl, List.forall_mem_cons.mpr ⟨rfl, List.forall_mem_cons.mpr ⟨rfl, List.forall_mem_cons.mpr ⟨rfl, fun _ h => absurd h List.not_mem_nil⟩⟩⟩⟩) ?_
          exact ih _ _ _ h
        · have hc330 : ¬ ((q326) = (q329.1)) := of_decide_eq_false hc
          rw [if_neg hc330] at h
          refine px_D_st 1 (ip1 := 727) (ls1 := [(0, .inr (.inr 1)), (1, .inr (.inr 5)), (2, .inr (.inr 150)), (3, .inl (x3))]) (st1 := [.inl (0)]) (h1 := (px_G1, q329.2)) rfl ?_
          cases h
          exact px_D_iret rfl rfl ⟨rfl, rfl⟩
      rw [if_neg hc323] at h
      refine px_D_tswD rfl (by omega) ?_
      refine px_D_st 2 (ip1 := 10) (ls1 := [(3, .inl (px_wr (x3 + 6))), (0, .inr (.inr 1)), (1, .inr (.inr 5)), (2, .inr (.inr 150))]) (st1 := []) (h1 := (px_G1, s)) rfl ?_
      refine px_D_ls [(0, .inr (.inr 1)), (1, .inr (.inr 5)), (2, .inr (.inr 150)), (3, .inl (px_wr (x3 + 6)))] rfl rfl (List.forall_mem_cons.mpr ⟨rfl, List.forall_mem_cons.mpr ⟨rfl, List.forall_mem_cons.mpr ⟨rfl, List.forall_mem_cons.mpr ⟨rfl, fun _ h => absurd h List.not_mem_nil⟩⟩⟩⟩) ?_
      exact ih _ _ _ h
def f_law (sc : List Int) (s : px_Z) : Option (Int × px_Z) := l_law_10 sc  px_big s 0
set_option maxHeartbeats 4000000 in
set_option maxRecDepth 100000 in
theorem c_law {sc : List Int} {d : Nat} {s : px_Z} {out : Int × px_Z} (h : f_law sc s = some out) : px_D sc (d + 196) 282 10 [(0, .inr (.inr 1)), (1, .inr (.inr 5)), (2, .inr (.inr 150)), (3, .inl (0))] [] (px_G1, s) (px_Qi out) := by
  unfold f_law at h
  refine px_D_ls [(0, .inr (.inr 1)), (1, .inr (.inr 5)), (2, .inr (.inr 150)), (3, .inl (0))] rfl rfl (List.forall_mem_cons.mpr ⟨rfl, List.forall_mem_cons.mpr ⟨rfl, List.forall_mem_cons.mpr ⟨rfl, List.forall_mem_cons.mpr ⟨rfl, fun _ h => absurd h List.not_mem_nil⟩⟩⟩⟩) ?_
  refine cl_law_10  px_big _ _ _ h
