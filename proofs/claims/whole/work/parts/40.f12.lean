def f_World_tellAfter_2 (s : px_Z) (x2 : Int) : Option (px_Z) := some (px_up (px_cp s 13 54 0 0 8) 47 7 x2)
set_option maxHeartbeats 4000000 in
set_option maxRecDepth 100000 in
theorem c_World_tellAfter_2 {sc : List Int} {d : Nat} {s : px_Z} {x2 : Int} {out : px_Z} (h : f_World_tellAfter_2 s x2 = some out) : px_D sc (d + 0) 80 0 [(0, .inr (.inr 47)), (1, .inr (.inr 13)), (2, .inl (x2))] [] (px_G1, s) (px_Qv out) := by
  unfold f_World_tellAfter_2 at h
  refine px_D_st 10 (ip1 := 10) (ls1 := [(0, .inr (.inr 47)), (1, .inr (.inr 13)), (2, .inl (x2))]) (st1 := []) (h1 := (px_G1, px_up (px_cp s 13 54 0 0 8) 47 7 x2)) rfl ?_
  cases h
  exact px_D_vret rfl ⟨rfl, rfl⟩

def f_Plan_become_2 (s : px_Z) : Option (px_Z) := some (px_cp (px_cp (px_cp (px_up s 75 0 (s 34 0)) 35 76 0 0 60) 36 77 0 0 60) 37 78 0 0 60)
set_option maxHeartbeats 4000000 in
set_option maxRecDepth 100000 in
theorem c_Plan_become_2 {sc : List Int} {d : Nat} {s : px_Z} {out : px_Z} (h : f_Plan_become_2 s  = some out) : px_D sc (d + 0) 35 0 [(0, .inr (.inr 75)), (1, .inr (.inr 34))] [] (px_G1, s) (px_Qv out) := by
  unfold f_Plan_become_2 at h
  refine px_D_st 28 (ip1 := 28) (ls1 := [(0, .inr (.inr 75)), (1, .inr (.inr 34))]) (st1 := []) (h1 := (px_G1, px_cp (px_cp (px_cp (px_up s 75 0 (s 34 0)) 35 76 0 0 60) 36 77 0 0 60) 37 78 0 0 60)) rfl ?_
  cases h
  exact px_D_vret rfl ⟨rfl, rfl⟩

def f_Hills_become_2 (s : px_Z) : Option (px_Z) := some (px_cp (px_cp (px_cp (px_cp (px_cp (px_up s 69 0 (s 28 0)) 29 70 0 0 24) 30 71 0 0 24) 31 72 0 0 24) 32 73 0 0 24) 33 74 0 0 24)
set_option maxHeartbeats 4000000 in
set_option maxRecDepth 100000 in
theorem c_Hills_become_2 {sc : List Int} {d : Nat} {s : px_Z} {out : px_Z} (h : f_Hills_become_2 s  = some out) : px_D sc (d + 0) 4 0 [(0, .inr (.inr 69)), (1, .inr (.inr 28))] [] (px_G1, s) (px_Qv out) := by
  unfold f_Hills_become_2 at h
  refine px_D_st 44 (ip1 := 44) (ls1 := [(0, .inr (.inr 69)), (1, .inr (.inr 28))]) (st1 := []) (h1 := (px_G1, px_cp (px_cp (px_cp (px_cp (px_cp (px_up s 69 0 (s 28 0)) 29 70 0 0 24) 30 71 0 0 24) 31 72 0 0 24) 32 73 0 0 24) 33 74 0 0 24)) rfl ?_
  cases h
  exact px_D_vret rfl ⟨rfl, rfl⟩

def f_Law_become_4 (s : px_Z) : Option (px_Z) := some (px_cp (px_cp (px_cp (px_cp (px_cp (px_up (px_up s 62 0 (s 21 0)) 62 1 ((px_up s 62 0 (s 21 0)) 21 1)) 22 63 0 0 16) 23 64 0 0 16) 24 65 0 0 16) 25 66 0 0 16) 26 67 0 0 400)
set_option maxHeartbeats 4000000 in
set_option maxRecDepth 100000 in
theorem c_Law_become_4 {sc : List Int} {d : Nat} {s : px_Z} {out : px_Z} (h : f_Law_become_4 s  = some out) : px_D sc (d + 0) 13 0 [(0, .inr (.inr 62)), (1, .inr (.inr 21))] [] (px_G1, s) (px_Qv out) := by
  unfold f_Law_become_4 at h
  refine px_D_st 48 (ip1 := 48) (ls1 := [(0, .inr (.inr 62)), (1, .inr (.inr 21))]) (st1 := []) (h1 := (px_G1, px_cp (px_cp (px_cp (px_cp (px_cp (px_up (px_up s 62 0 (s 21 0)) 62 1 ((px_up s 62 0 (s 21 0)) 21 1)) 22 63 0 0 16) 23 64 0 0 16) 24 65 0 0 16) 25 66 0 0 16) 26 67 0 0 400)) rfl ?_
  cases h
  exact px_D_vret rfl ⟨rfl, rfl⟩

def f_World_become (s : px_Z) : Option (px_Z) := (f_Fate_become_13 s ).bind (fun q1 => (f_World_tellAfter_2 (px_cp (px_up (px_up (px_up (px_up q1 47 1 (q1 6 1)) 47 2 ((px_up q1 47 1 (q1 6 1)) 6 2)) 47 3 ((px_up (px_up q1 47 1 (q1 6 1)) 47 2 ((px_up q1 47 1 (q1 6 1)) 6 2)) 6 3)) 47 4 ((px_up (px_up (px_up q1 47 1 (q1 6 1)) 47 2 ((px_up q1 47 1 (q1 6 1)) 6 2)) 47 3 ((px_up (px_up q1 47 1 (q1 6 1)) 47 2 ((px_up q1 47 1 (q1 6 1)) 6 2)) 6 3)) 6 4)) 12 53 0 0 8) ((px_cp (px_up (px_up (px_up (px_up q1 47 1 (q1 6 1)) 47 2 ((px_up q1 47 1 (q1 6 1)) 6 2)) 47 3 ((px_up (px_up q1 47 1 (q1 6 1)) 47 2 ((px_up q1 47 1 (q1 6 1)) 6 2)) 6 3)) 47 4 ((px_up (px_up (px_up q1 47 1 (q1 6 1)) 47 2 ((px_up q1 47 1 (q1 6 1)) 6 2)) 47 3 ((px_up (px_up q1 47 1 (q1 6 1)) 47 2 ((px_up q1 47 1 (q1 6 1)) 6 2)) 6 3)) 6 4)) 12 53 0 0 8) 6 7)).bind (fun q2 => (f_Law_become_3 q2 ).bind (fun q3 => (f_Law_become_4 q3 ).bind (fun q4 => (f_Hills_become_2 q4 ).bind (fun q5 => (f_Plan_become_2 q5 ).bind (fun q6 => (f_Told_become q6 ).bind (fun q7 => some (px_cp q7 45 86 0 0 600))))))))
set_option maxHeartbeats 4000000 in
set_option maxRecDepth 100000 in
theorem c_World_become {sc : List Int} {d : Nat} {s : px_Z} {out : px_Z} (h : f_World_become s  = some out) : px_D sc (d + 1) 78 0 [(0, .inr (.inr 47)), (1, .inr (.inr 6))] [] (px_G1, s) (px_Qv out) := by
  unfold f_World_become at h
  refine px_D_st 4 (ip1 := 4) (ls1 := [(0, .inr (.inr 47)), (1, .inr (.inr 6))]) (st1 := [.inr (.inr 7), .inr (.inr 48)]) (h1 := (px_G1, s)) rfl ?_
  refine px_D_call (as := [.inr (.inr 48), .inr (.inr 7)]) (rest := []) rfl rfl rfl rfl ?_
  obtain ⟨q1, hq1, h⟩ := Option.bind_eq_some_iff.mp h
  refine px_D_mono (c_Fate_become_13 (d := d + 0) hq1) ?_
  rintro _ _ ⟨rfl, rfl⟩
  show px_D sc (d + 1) 78 5 [(0, .inr (.inr 47)), (1, .inr (.inr 6))] [] (px_G1, q1) _
  refine px_D_st 29 (ip1 := 34) (ls1 := [(0, .inr (.inr 47)), (1, .inr (.inr 6))]) (st1 := [.inl ((px_cp (px_up (px_up (px_up (px_up q1 47 1 (q1 6 1)) 47 2 ((px_up q1 47 1 (q1 6 1)) 6 2)) 47 3 ((px_up (px_up q1 47 1 (q1 6 1)) 47 2 ((px_up q1 47 1 (q1 6 1)) 6 2)) 6 3)) 47 4 ((px_up (px_up (px_up q1 47 1 (q1 6 1)) 47 2 ((px_up q1 47 1 (q1 6 1)) 6 2)) 47 3 ((px_up (px_up q1 47 1 (q1 6 1)) 47 2 ((px_up q1 47 1 (q1 6 1)) 6 2)) 6 3)) 6 4)) 12 53 0 0 8) 6 7), .inr (.inr 13), .inr (.inr 47)]) (h1 := (px_G1, px_cp (px_up (px_up (px_up (px_up q1 47 1 (q1 6 1)) 47 2 ((px_up q1 47 1 (q1 6 1)) 6 2)) 47 3 ((px_up (px_up q1 47 1 (q1 6 1)) 47 2 ((px_up q1 47 1 (q1 6 1)) 6 2)) 6 3)) 47 4 ((px_up (px_up (px_up q1 47 1 (q1 6 1)) 47 2 ((px_up q1 47 1 (q1 6 1)) 6 2)) 47 3 ((px_up (px_up q1 47 1 (q1 6 1)) 47 2 ((px_up q1 47 1 (q1 6 1)) 6 2)) 6 3)) 6 4)) 12 53 0 0 8)) rfl ?_
  refine px_D_call (as := [.inr (.inr 47), .inr (.inr 13), .inl ((px_cp (px_up (px_up (px_up (px_up q1 47 1 (q1 6 1)) 47 2 ((px_up q1 47 1 (q1 6 1)) 6 2)) 47 3 ((px_up (px_up q1 47 1 (q1 6 1)) 47 2 ((px_up q1 47 1 (q1 6 1)) 6 2)) 6 3)) 47 4 ((px_up (px_up (px_up q1 47 1 (q1 6 1)) 47 2 ((px_up q1 47 1 (q1 6 1)) 6 2)) 47 3 ((px_up (px_up q1 47 1 (q1 6 1)) 47 2 ((px_up q1 47 1 (q1 6 1)) 6 2)) 6 3)) 6 4)) 12 53 0 0 8) 6 7)]) (rest := []) rfl rfl rfl rfl ?_
  obtain ⟨q2, hq2, h⟩ := Option.bind_eq_some_iff.mp h
  refine px_D_mono (c_World_tellAfter_2 (d := d + 0) hq2) ?_
  rintro _ _ ⟨rfl, rfl⟩
  show px_D sc (d + 1) 78 35 [(0, .inr (.inr 47)), (1, .inr (.inr 6))] [] (px_G1, q2) _
  refine px_D_st 4 (ip1 := 39) (ls1 := [(0, .inr (.inr 47)), (1, .inr (.inr 6))]) (st1 := [.inr (.inr 14), .inr (.inr 55)]) (h1 := (px_G1, q2)) rfl ?_
  refine px_D_call (as := [.inr (.inr 55), .inr (.inr 14)]) (rest := []) rfl rfl rfl rfl ?_
  obtain ⟨q3, hq3, h⟩ := Option.bind_eq_some_iff.mp h
  refine px_D_mono (c_Law_become_3 (d := d + 0) hq3) ?_
  rintro _ _ ⟨rfl, rfl⟩
  show px_D sc (d + 1) 78 40 [(0, .inr (.inr 47)), (1, .inr (.inr 6))] [] (px_G1, q3) _
  refine px_D_st 4 (ip1 := 44) (ls1 := [(0, .inr (.inr 47)), (1, .inr (.inr 6))]) (st1 := [.inr (.inr 21), .inr (.inr 62)]) (h1 := (px_G1, q3)) rfl ?_
  refine px_D_call (as := [.inr (.inr 62), .inr (.inr 21)]) (rest := []) rfl rfl rfl rfl ?_
  obtain ⟨q4, hq4, h⟩ := Option.bind_eq_some_iff.mp h
  refine px_D_mono (c_Law_become_4 (d := d + 0) hq4) ?_
  rintro _ _ ⟨rfl, rfl⟩
  show px_D sc (d + 1) 78 45 [(0, .inr (.inr 47)), (1, .inr (.inr 6))] [] (px_G1, q4) _
  refine px_D_st 4 (ip1 := 49) (ls1 := [(0, .inr (.inr 47)), (1, .inr (.inr 6))]) (st1 := [.inr (.inr 28), .inr (.inr 69)]) (h1 := (px_G1, q4)) rfl ?_
  refine px_D_call (as := [.inr (.inr 69), .inr (.inr 28)]) (rest := []) rfl rfl rfl rfl ?_
  obtain ⟨q5, hq5, h⟩ := Option.bind_eq_some_iff.mp h
  refine px_D_mono (c_Hills_become_2 (d := d + 0) hq5) ?_
  rintro _ _ ⟨rfl, rfl⟩
  show px_D sc (d + 1) 78 50 [(0, .inr (.inr 47)), (1, .inr (.inr 6))] [] (px_G1, q5) _
  refine px_D_st 4 (ip1 := 54) (ls1 := [(0, .inr (.inr 47)), (1, .inr (.inr 6))]) (st1 := [.inr (.inr 34), .inr (.inr 75)]) (h1 := (px_G1, q5)) rfl ?_
  refine px_D_call (as := [.inr (.inr 75), .inr (.inr 34)]) (rest := []) rfl rfl rfl rfl ?_
  obtain ⟨q6, hq6, h⟩ := Option.bind_eq_some_iff.mp h
  refine px_D_mono (c_Plan_become_2 (d := d + 0) hq6) ?_
  rintro _ _ ⟨rfl, rfl⟩
  show px_D sc (d + 1) 78 55 [(0, .inr (.inr 47)), (1, .inr (.inr 6))] [] (px_G1, q6) _
  refine px_D_st 4 (ip1 := 59) (ls1 := [(0, .inr (.inr 47)), (1, .inr (.inr 6))]) (st1 := [.inr (.inr 38), .inr (.inr 79)]) (h1 := (px_G1, q6)) rfl ?_
  refine px_D_call (as := [.inr (.inr 79), .inr (.inr 38)]) (rest := []) rfl rfl rfl rfl ?_
  obtain ⟨q7, hq7, h⟩ := Option.bind_eq_some_iff.mp h
  refine px_D_mono (c_Told_become (d := d + 0) hq7) ?_
  rintro _ _ ⟨rfl, rfl⟩
  show px_D sc (d + 1) 78 60 [(0, .inr (.inr 47)), (1, .inr (.inr 6))] [] (px_G1, q7) _
  refine px_D_st 10 (ip1 := 70) (ls1 := [(0, .inr (.inr 47)), (1, .inr (.inr 6))]) (st1 := []) (h1 := (px_G1, px_cp q7 45 86 0 0 600)) rfl ?_
  cases h
  exact px_D_vret rfl ⟨rfl, rfl⟩

def f_Law_become_5 (s : px_Z) : Option (px_Z) := some (px_cp (px_cp (px_cp (px_cp (px_cp (px_up (px_up s 14 0 (s 55 0)) 14 1 ((px_up s 14 0 (s 55 0)) 55 1)) 56 15 0 0 16) 57 16 0 0 16) 58 17 0 0 16) 59 18 0 0 16) 60 19 0 0 400)
set_option maxHeartbeats 4000000 in
set_option maxRecDepth 100000 in
theorem c_Law_become_5 {sc : List Int} {d : Nat} {s : px_Z} {out : px_Z} (h : f_Law_become_5 s  = some out) : px_D sc (d + 0) 13 0 [(0, .inr (.inr 14)), (1, .inr (.inr 55))] [] (px_G1, s) (px_Qv out) := by
  unfold f_Law_become_5 at h
  refine px_D_st 48 (ip1 := 48) (ls1 := [(0, .inr (.inr 14)), (1, .inr (.inr 55))]) (st1 := []) (h1 := (px_G1, px_cp (px_cp (px_cp (px_cp (px_cp (px_up (px_up s 14 0 (s 55 0)) 14 1 ((px_up s 14 0 (s 55 0)) 55 1)) 56 15 0 0 16) 57 16 0 0 16) 58 17 0 0 16) 59 18 0 0 16) 60 19 0 0 400)) rfl ?_
  cases h
  exact px_D_vret rfl ⟨rfl, rfl⟩

def f_Fate_become_14 (s : px_Z) : Option (px_Z) := if ((px_up (px_up (px_up (px_up (px_up (px_up s 7 0 (s 48 0)) 7 1 ((px_up s 7 0 (s 48 0)) 48 1)) 7 2 ((px_up (px_up s 7 0 (s 48 0)) 7 1 ((px_up s 7 0 (s 48 0)) 48 1)) 48 2)) 7 3 ((px_up (px_up (px_up s 7 0 (s 48 0)) 7 1 ((px_up s 7 0 (s 48 0)) 48 1)) 7 2 ((px_up (px_up s 7 0 (s 48 0)) 7 1 ((px_up s 7 0 (s 48 0)) 48 1)) 48 2)) 48 3)) 7 4 ((px_up (px_up (px_up (px_up s 7 0 (s 48 0)) 7 1 ((px_up s 7 0 (s 48 0)) 48 1)) 7 2 ((px_up (px_up s 7 0 (s 48 0)) 7 1 ((px_up s 7 0 (s 48 0)) 48 1)) 48 2)) 7 3 ((px_up (px_up (px_up s 7 0 (s 48 0)) 7 1 ((px_up s 7 0 (s 48 0)) 48 1)) 7 2 ((px_up (px_up s 7 0 (s 48 0)) 7 1 ((px_up s 7 0 (s 48 0)) 48 1)) 48 2)) 48 3)) 48 4)) 7 5 ((px_up (px_up (px_up (px_up (px_up s 7 0 (s 48 0)) 7 1 ((px_up s 7 0 (s 48 0)) 48 1)) 7 2 ((px_up (px_up s 7 0 (s 48 0)) 7 1 ((px_up s 7 0 (s 48 0)) 48 1)) 48 2)) 7 3 ((px_up (px_up (px_up s 7 0 (s 48 0)) 7 1 ((px_up s 7 0 (s 48 0)) 48 1)) 7 2 ((px_up (px_up s 7 0 (s 48 0)) 7 1 ((px_up s 7 0 (s 48 0)) 48 1)) 48 2)) 48 3)) 7 4 ((px_up (px_up (px_up (px_up s 7 0 (s 48 0)) 7 1 ((px_up s 7 0 (s 48 0)) 48 1)) 7 2 ((px_up (px_up s 7 0 (s 48 0)) 7 1 ((px_up s 7 0 (s 48 0)) 48 1)) 48 2)) 7 3 ((px_up (px_up (px_up s 7 0 (s 48 0)) 7 1 ((px_up s 7 0 (s 48 0)) 48 1)) 7 2 ((px_up (px_up s 7 0 (s 48 0)) 7 1 ((px_up s 7 0 (s 48 0)) 48 1)) 48 2)) 48 3)) 48 4)) 48 5)) 48 6) = 0 ∨ ((px_up (px_up (px_up (px_up (px_up (px_up s 7 0 (s 48 0)) 7 1 ((px_up s 7 0 (s 48 0)) 48 1)) 7 2 ((px_up (px_up s 7 0 (s 48 0)) 7 1 ((px_up s 7 0 (s 48 0)) 48 1)) 48 2)) 7 3 ((px_up (px_up (px_up s 7 0 (s 48 0)) 7 1 ((px_up s 7 0 (s 48 0)) 48 1)) 7 2 ((px_up (px_up s 7 0 (s 48 0)) 7 1 ((px_up s 7 0 (s 48 0)) 48 1)) 48 2)) 48 3)) 7 4 ((px_up (px_up (px_up (px_up s 7 0 (s 48 0)) 7 1 ((px_up s 7 0 (s 48 0)) 48 1)) 7 2 ((px_up (px_up s 7 0 (s 48 0)) 7 1 ((px_up s 7 0 (s 48 0)) 48 1)) 48 2)) 7 3 ((px_up (px_up (px_up s 7 0 (s 48 0)) 7 1 ((px_up s 7 0 (s 48 0)) 48 1)) 7 2 ((px_up (px_up s 7 0 (s 48 0)) 7 1 ((px_up s 7 0 (s 48 0)) 48 1)) 48 2)) 48 3)) 48 4)) 7 5 ((px_up (px_up (px_up (px_up (px_up s 7 0 (s 48 0)) 7 1 ((px_up s 7 0 (s 48 0)) 48 1)) 7 2 ((px_up (px_up s 7 0 (s 48 0)) 7 1 ((px_up s 7 0 (s 48 0)) 48 1)) 48 2)) 7 3 ((px_up (px_up (px_up s 7 0 (s 48 0)) 7 1 ((px_up s 7 0 (s 48 0)) 48 1)) 7 2 ((px_up (px_up s 7 0 (s 48 0)) 7 1 ((px_up s 7 0 (s 48 0)) 48 1)) 48 2)) 48 3)) 7 4 ((px_up (px_up (px_up (px_up s 7 0 (s 48 0)) 7 1 ((px_up s 7 0 (s 48 0)) 48 1)) 7 2 ((px_up (px_up s 7 0 (s 48 0)) 7 1 ((px_up s 7 0 (s 48 0)) 48 1)) 48 2)) 7 3 ((px_up (px_up (px_up s 7 0 (s 48 0)) 7 1 ((px_up s 7 0 (s 48 0)) 48 1)) 7 2 ((px_up (px_up s 7 0 (s 48 0)) 7 1 ((px_up s 7 0 (s 48 0)) 48 1)) 48 2)) 48 3)) 48 4)) 48 5)) 48 6) = 1 then some (px_cp (px_cp (px_cp (px_cp (px_up (px_up (px_up (px_up (px_up (px_up (px_up (px_up s 7 0 (s 48 0)) 7 1 ((px_up s 7 0 (s 48 0)) 48 1)) 7 2 ((px_up (px_up s 7 0 (s 48 0)) 7 1 ((px_up s 7 0 (s 48 0)) 48 1)) 48 2)) 7 3 ((px_up (px_up (px_up s 7 0 (s 48 0)) 7 1 ((px_up s 7 0 (s 48 0)) 48 1)) 7 2 ((px_up (px_up s 7 0 (s 48 0)) 7 1 ((px_up s 7 0 (s 48 0)) 48 1)) 48 2)) 48 3)) 7 4 ((px_up (px_up (px_up (px_up s 7 0 (s 48 0)) 7 1 ((px_up s 7 0 (s 48 0)) 48 1)) 7 2 ((px_up (px_up s 7 0 (s 48 0)) 7 1 ((px_up s 7 0 (s 48 0)) 48 1)) 48 2)) 7 3 ((px_up (px_up (px_up s 7 0 (s 48 0)) 7 1 ((px_up s 7 0 (s 48 0)) 48 1)) 7 2 ((px_up (px_up s 7 0 (s 48 0)) 7 1 ((px_up s 7 0 (s 48 0)) 48 1)) 48 2)) 48 3)) 48 4)) 7 5 ((px_up (px_up (px_up (px_up (px_up s 7 0 (s 48 0)) 7 1 ((px_up s 7 0 (s 48 0)) 48 1)) 7 2 ((px_up (px_up s 7 0 (s 48 0)) 7 1 ((px_up s 7 0 (s 48 0)) 48 1)) 48 2)) 7 3 ((px_up (px_up (px_up s 7 0 (s 48 0)) 7 1 ((px_up s 7 0 (s 48 0)) 48 1)) 7 2 ((px_up (px_up s 7 0 (s 48 0)) 7 1 ((px_up s 7 0 (s 48 0)) 48 1)) 48 2)) 48 3)) 7 4 ((px_up (px_up (px_up (px_up s 7 0 (s 48 0)) 7 1 ((px_up s 7 0 (s 48 0)) 48 1)) 7 2 ((px_up (px_up s 7 0 (s 48 0)) 7 1 ((px_up s 7 0 (s 48 0)) 48 1)) 48 2)) 7 3 ((px_up (px_up (px_up s 7 0 (s 48 0)) 7 1 ((px_up s 7 0 (s 48 0)) 48 1)) 7 2 ((px_up (px_up s 7 0 (s 48 0)) 7 1 ((px_up s 7 0 (s 48 0)) 48 1)) 48 2)) 48 3)) 48 4)) 48 5)) 7 6 ((px_up (px_up (px_up (px_up (px_up (px_up s 7 0 (s 48 0)) 7 1 ((px_up s 7 0 (s 48 0)) 48 1)) 7 2 ((px_up (px_up s 7 0 (s 48 0)) 7 1 ((px_up s 7 0 (s 48 0)) 48 1)) 48 2)) 7 3 ((px_up (px_up (px_up s 7 0 (s 48 0)) 7 1 ((px_up s 7 0 (s 48 0)) 48 1)) 7 2 ((px_up (px_up s 7 0 (s 48 0)) 7 1 ((px_up s 7 0 (s 48 0)) 48 1)) 48 2)) 48 3)) 7 4 ((px_up (px_up (px_up (px_up s 7 0 (s 48 0)) 7 1 ((px_up s 7 0 (s 48 0)) 48 1)) 7 2 ((px_up (px_up s 7 0 (s 48 0)) 7 1 ((px_up s 7 0 (s 48 0)) 48 1)) 48 2)) 7 3 ((px_up (px_up (px_up s 7 0 (s 48 0)) 7 1 ((px_up s 7 0 (s 48 0)) 48 1)) 7 2 ((px_up (px_up s 7 0 (s 48 0)) 7 1 ((px_up s 7 0 (s 48 0)) 48 1)) 48 2)) 48 3)) 48 4)) 7 5 ((px_up (px_up (px_up (px_up (px_up s 7 0 (s 48 0)) 7 1 ((px_up s 7 0 (s 48 0)) 48 1)) 7 2 ((px_up (px_up s 7 0 (s 48 0)) 7 1 ((px_up s 7 0 (s 48 0)) 48 1)) 48 2)) 7 3 ((px_up (px_up (px_up s 7 0 (s 48 0)) 7 1 ((px_up s 7 0 (s 48 0)) 48 1)) 7 2 ((px_up (px_up s 7 0 (s 48 0)) 7 1 ((px_up s 7 0 (s 48 0)) 48 1)) 48 2)) 48 3)) 7 4 ((px_up (px_up (px_up (px_up s 7 0 (s 48 0)) 7 1 ((px_up s 7 0 (s 48 0)) 48 1)) 7 2 ((px_up (px_up s 7 0 (s 48 0)) 7 1 ((px_up s 7 0 (s 48 0)) 48 1)) 48 2)) 7 3 ((px_up (px_up (px_up s 7 0 (s 48 0)) 7 1 ((px_up s 7 0 (s 48 0)) 48 1)) 7 2 ((px_up (px_up s 7 0 (s 48 0)) 7 1 ((px_up s 7 0 (s 48 0)) 48 1)) 48 2)) 48 3)) 48 4)) 48 5)) 48 6)) 7 7 ((px_up (px_up (px_up (px_up (px_up (px_up (px_up s 7 0 (s 48 0)) 7 1 ((px_up s 7 0 (s 48 0)) 48 1)) 7 2 ((px_up (px_up s 7 0 (s 48 0)) 7 1 ((px_up s 7 0 (s 48 0)) 48 1)) 48 2)) 7 3 ((px_up (px_up (px_up s 7 0 (s 48 0)) 7 1 ((px_up s 7 0 (s 48 0)) 48 1)) 7 2 ((px_up (px_up s 7 0 (s 48 0)) 7 1 ((px_up s 7 0 (s 48 0)) 48 1)) 48 2)) 48 3)) 7 4 ((px_up (px_up (px_up (px_up s 7 0 (s 48 0)) 7 1 ((px_up s 7 0 (s 48 0)) 48 1)) 7 2 ((px_up (px_up s 7 0 (s 48 0)) 7 1 ((px_up s 7 0 (s 48 0)) 48 1)) 48 2)) 7 3 ((px_up (px_up (px_up s 7 0 (s 48 0)) 7 1 ((px_up s 7 0 (s 48 0)) 48 1)) 7 2 ((px_up (px_up s 7 0 (s 48 0)) 7 1 ((px_up s 7 0 (s 48 0)) 48 1)) 48 2)) 48 3)) 48 4)) 7 5 ((px_up (px_up (px_up (px_up (px_up s 7 0 (s 48 0)) 7 1 ((px_up s 7 0 (s 48 0)) 48 1)) 7 2 ((px_up (px_up s 7 0 (s 48 0)) 7 1 ((px_up s 7 0 (s 48 0)) 48 1)) 48 2)) 7 3 ((px_up (px_up (px_up s 7 0 (s 48 0)) 7 1 ((px_up s 7 0 (s 48 0)) 48 1)) 7 2 ((px_up (px_up s 7 0 (s 48 0)) 7 1 ((px_up s 7 0 (s 48 0)) 48 1)) 48 2)) 48 3)) 7 4 ((px_up (px_up (px_up (px_up s 7 0 (s 48 0)) 7 1 ((px_up s 7 0 (s 48 0)) 48 1)) 7 2 ((px_up (px_up s 7 0 (s 48 0)) 7 1 ((px_up s 7 0 (s 48 0)) 48 1)) 48 2)) 7 3 ((px_up (px_up (px_up s 7 0 (s 48 0)) 7 1 ((px_up s 7 0 (s 48 0)) 48 1)) 7 2 ((px_up (px_up s 7 0 (s 48 0)) 7 1 ((px_up s 7 0 (s 48 0)) 48 1)) 48 2)) 48 3)) 48 4)) 48 5)) 7 6 ((px_up (px_up (px_up (px_up (px_up (px_up s 7 0 (s 48 0)) 7 1 ((px_up s 7 0 (s 48 0)) 48 1)) 7 2 ((px_up (px_up s 7 0 (s 48 0)) 7 1 ((px_up s 7 0 (s 48 0)) 48 1)) 48 2)) 7 3 ((px_up (px_up (px_up s 7 0 (s 48 0)) 7 1 ((px_up s 7 0 (s 48 0)) 48 1)) 7 2 ((px_up (px_up s 7 0 (s 48 0)) 7 1 ((px_up s 7 0 (s 48 0)) 48 1)) 48 2)) 48 3)) 7 4 ((px_up (px_up (px_up (px_up s 7 0 (s 48 0)) 7 1 ((px_up s 7 0 (s 48 0)) 48 1)) 7 2 ((px_up (px_up s 7 0 (s 48 0)) 7 1 ((px_up s 7 0 (s 48 0)) 48 1)) 48 2)) 7 3 ((px_up (px_up (px_up s 7 0 (s 48 0)) 7 1 ((px_up s 7 0 (s 48 0)) 48 1)) 7 2 ((px_up (px_up s 7 0 (s 48 0)) 7 1 ((px_up s 7 0 (s 48 0)) 48 1)) 48 2)) 48 3)) 48 4)) 7 5 ((px_up (px_up (px_up (px_up (px_up s 7 0 (s 48 0)) 7 1 ((px_up s 7 0 (s 48 0)) 48 1)) 7 2 ((px_up (px_up s 7 0 (s 48 0)) 7 1 ((px_up s 7 0 (s 48 0)) 48 1)) 48 2)) 7 3 ((px_up (px_up (px_up s 7 0 (s 48 0)) 7 1 ((px_up s 7 0 (s 48 0)) 48 1)) 7 2 ((px_up (px_up s 7 0 (s 48 0)) 7 1 ((px_up s 7 0 (s 48 0)) 48 1)) 48 2)) 48 3)) 7 4 ((px_up (px_up (px_up (px_up s 7 0 (s 48 0)) 7 1 ((px_up s 7 0 (s 48 0)) 48 1)) 7 2 ((px_up (px_up s 7 0 (s 48 0)) 7 1 ((px_up s 7 0 (s 48 0)) 48 1)) 48 2)) 7 3 ((px_up (px_up (px_up s 7 0 (s 48 0)) 7 1 ((px_up s 7 0 (s 48 0)) 48 1)) 7 2 ((px_up (px_up s 7 0 (s 48 0)) 7 1 ((px_up s 7 0 (s 48 0)) 48 1)) 48 2)) 48 3)) 48 4)) 48 5)) 48 6)) 48 7)) 49 8 0 0 8) 50 9 0 0 8) 51 10 0 0 8) 52 11 0 0 8) else none
set_option maxHeartbeats 4000000 in
set_option maxRecDepth 100000 in
theorem c_Fate_become_14 {sc : List Int} {d : Nat} {s : px_Z} {out : px_Z} (h : f_Fate_become_14 s  = some out) : px_D sc (d + 0) 1 0 [(0, .inr (.inr 7)), (1, .inr (.inr 48))] [] (px_G1, s) (px_Qv out) := by
  unfold f_Fate_become_14 at h
  refine px_D_st 27 (ip1 := 27) (ls1 := [(0, .inr (.inr 7)), (1, .inr (.inr 48))]) (st1 := [.inl ((px_up (px_up (px_up (px_up (px_up (px_up s 7 0 (s 48 0)) 7 1 ((px_up s 7 0 (s 48 0)) 48 1)) 7 2 ((px_up (px_up s 7 0 (s 48 0)) 7 1 ((px_up s 7 0 (s 48 0)) 48 1)) 48 2)) 7 3 ((px_up (px_up (px_up s 7 0 (s 48 0)) 7 1 ((px_up s 7 0 (s 48 0)) 48 1)) 7 2 ((px_up (px_up s 7 0 (s 48 0)) 7 1 ((px_up s 7 0 (s 48 0)) 48 1)) 48 2)) 48 3)) 7 4 ((px_up (px_up (px_up (px_up s 7 0 (s 48 0)) 7 1 ((px_up s 7 0 (s 48 0)) 48 1)) 7 2 ((px_up (px_up s 7 0 (s 48 0)) 7 1 ((px_up s 7 0 (s 48 0)) 48 1)) 48 2)) 7 3 ((px_up (px_up (px_up s 7 0 (s 48 0)) 7 1 ((px_up s 7 0 (s 48 0)) 48 1)) 7 2 ((px_up (px_up s 7 0 (s 48 0)) 7 1 ((px_up s 7 0 (s 48 0)) 48 1)) 48 2)) 48 3)) 48 4)) 7 5 ((px_up (px_up (px_up (px_up (px_up s 7 0 (s 48 0)) 7 1 ((px_up s 7 0 (s 48 0)) 48 1)) 7 2 ((px_up (px_up s 7 0 (s 48 0)) 7 1 ((px_up s 7 0 (s 48 0)) 48 1)) 48 2)) 7 3 ((px_up (px_up (px_up s 7 0 (s 48 0)) 7 1 ((px_up s 7 0 (s 48 0)) 48 1)) 7 2 ((px_up (px_up s 7 0 (s 48 0)) 7 1 ((px_up s 7 0 (s 48 0)) 48 1)) 48 2)) 48 3)) 7 4 ((px_up (px_up (px_up (px_up s 7 0 (s 48 0)) 7 1 ((px_up s 7 0 (s 48 0)) 48 1)) 7 2 ((px_up (px_up s 7 0 (s 48 0)) 7 1 ((px_up s 7 0 (s 48 0)) 48 1)) 48 2)) 7 3 ((px_up (px_up (px_up s 7 0 (s 48 0)) 7 1 ((px_up s 7 0 (s 48 0)) 48 1)) 7 2 ((px_up (px_up s 7 0 (s 48 0)) 7 1 ((px_up s 7 0 (s 48 0)) 48 1)) 48 2)) 48 3)) 48 4)) 48 5)) 48 6), .inr (.inr 7)]) (h1 := (px_G1, px_up (px_up (px_up (px_up (px_up (px_up s 7 0 (s 48 0)) 7 1 ((px_up s 7 0 (s 48 0)) 48 1)) 7 2 ((px_up (px_up s 7 0 (s 48 0)) 7 1 ((px_up s 7 0 (s 48 0)) 48 1)) 48 2)) 7 3 ((px_up (px_up (px_up s 7 0 (s 48 0)) 7 1 ((px_up s 7 0 (s 48 0)) 48 1)) 7 2 ((px_up (px_up s 7 0 (s 48 0)) 7 1 ((px_up s 7 0 (s 48 0)) 48 1)) 48 2)) 48 3)) 7 4 ((px_up (px_up (px_up (px_up s 7 0 (s 48 0)) 7 1 ((px_up s 7 0 (s 48 0)) 48 1)) 7 2 ((px_up (px_up s 7 0 (s 48 0)) 7 1 ((px_up s 7 0 (s 48 0)) 48 1)) 48 2)) 7 3 ((px_up (px_up (px_up s 7 0 (s 48 0)) 7 1 ((px_up s 7 0 (s 48 0)) 48 1)) 7 2 ((px_up (px_up s 7 0 (s 48 0)) 7 1 ((px_up s 7 0 (s 48 0)) 48 1)) 48 2)) 48 3)) 48 4)) 7 5 ((px_up (px_up (px_up (px_up (px_up s 7 0 (s 48 0)) 7 1 ((px_up s 7 0 (s 48 0)) 48 1)) 7 2 ((px_up (px_up s 7 0 (s 48 0)) 7 1 ((px_up s 7 0 (s 48 0)) 48 1)) 48 2)) 7 3 ((px_up (px_up (px_up s 7 0 (s 48 0)) 7 1 ((px_up s 7 0 (s 48 0)) 48 1)) 7 2 ((px_up (px_up s 7 0 (s 48 0)) 7 1 ((px_up s 7 0 (s 48 0)) 48 1)) 48 2)) 48 3)) 7 4 ((px_up (px_up (px_up (px_up s 7 0 (s 48 0)) 7 1 ((px_up s 7 0 (s 48 0)) 48 1)) 7 2 ((px_up (px_up s 7 0 (s 48 0)) 7 1 ((px_up s 7 0 (s 48 0)) 48 1)) 48 2)) 7 3 ((px_up (px_up (px_up s 7 0 (s 48 0)) 7 1 ((px_up s 7 0 (s 48 0)) 48 1)) 7 2 ((px_up (px_up s 7 0 (s 48 0)) 7 1 ((px_up s 7 0 (s 48 0)) 48 1)) 48 2)) 48 3)) 48 4)) 48 5))) rfl ?_
  by_cases hc1 : ((px_up (px_up (px_up (px_up (px_up (px_up s 7 0 (s 48 0)) 7 1 ((px_up s 7 0 (s 48 0)) 48 1)) 7 2 ((px_up (px_up s 7 0 (s 48 0)) 7 1 ((px_up s 7 0 (s 48 0)) 48 1)) 48 2)) 7 3 ((px_up (px_up (px_up s 7 0 (s 48 0)) 7 1 ((px_up s 7 0 (s 48 0)) 48 1)) 7 2 ((px_up (px_up s 7 0 (s 48 0)) 7 1 ((px_up s 7 0 (s 48 0)) 48 1)) 48 2)) 48 3)) 7 4 ((px_up (px_up (px_up (px_up s 7 0 (s 48 0)) 7 1 ((px_up s 7 0 (s 48 0)) 48 1)) 7 2 ((px_up (px_up s 7 0 (s 48 0)) 7 1 ((px_up s 7 0 (s 48 0)) 48 1)) 48 2)) 7 3 ((px_up (px_up (px_up s 7 0 (s 48 0)) 7 1 ((px_up s 7 0 (s 48 0)) 48 1)) 7 2 ((px_up (px_up s 7 0 (s 48 0)) 7 1 ((px_up s 7 0 (s 48 0)) 48 1)) 48 2)) 48 3)) 48 4)) 7 5 ((px_up (px_up (px_up (px_up (px_up s 7 0 (s 48 0)) 7 1 ((px_up s 7 0 (s 48 0)) 48 1)) 7 2 ((px_up (px_up s 7 0 (s 48 0)) 7 1 ((px_up s 7 0 (s 48 0)) 48 1)) 48 2)) 7 3 ((px_up (px_up (px_up s 7 0 (s 48 0)) 7 1 ((px_up s 7 0 (s 48 0)) 48 1)) 7 2 ((px_up (px_up s 7 0 (s 48 0)) 7 1 ((px_up s 7 0 (s 48 0)) 48 1)) 48 2)) 48 3)) 7 4 ((px_up (px_up (px_up (px_up s 7 0 (s 48 0)) 7 1 ((px_up s 7 0 (s 48 0)) 48 1)) 7 2 ((px_up (px_up s 7 0 (s 48 0)) 7 1 ((px_up s 7 0 (s 48 0)) 48 1)) 48 2)) 7 3 ((px_up (px_up (px_up s 7 0 (s 48 0)) 7 1 ((px_up s 7 0 (s 48 0)) 48 1)) 7 2 ((px_up (px_up s 7 0 (s 48 0)) 7 1 ((px_up s 7 0 (s 48 0)) 48 1)) 48 2)) 48 3)) 48 4)) 48 5)) 48 6) = 0 ∨ ((px_up (px_up (px_up (px_up (px_up (px_up s 7 0 (s 48 0)) 7 1 ((px_up s 7 0 (s 48 0)) 48 1)) 7 2 ((px_up (px_up s 7 0 (s 48 0)) 7 1 ((px_up s 7 0 (s 48 0)) 48 1)) 48 2)) 7 3 ((px_up (px_up (px_up s 7 0 (s 48 0)) 7 1 ((px_up s 7 0 (s 48 0)) 48 1)) 7 2 ((px_up (px_up s 7 0 (s 48 0)) 7 1 ((px_up s 7 0 (s 48 0)) 48 1)) 48 2)) 48 3)) 7 4 ((px_up (px_up (px_up (px_up s 7 0 (s 48 0)) 7 1 ((px_up s 7 0 (s 48 0)) 48 1)) 7 2 ((px_up (px_up s 7 0 (s 48 0)) 7 1 ((px_up s 7 0 (s 48 0)) 48 1)) 48 2)) 7 3 ((px_up (px_up (px_up s 7 0 (s 48 0)) 7 1 ((px_up s 7 0 (s 48 0)) 48 1)) 7 2 ((px_up (px_up s 7 0 (s 48 0)) 7 1 ((px_up s 7 0 (s 48 0)) 48 1)) 48 2)) 48 3)) 48 4)) 7 5 ((px_up (px_up (px_up (px_up (px_up s 7 0 (s 48 0)) 7 1 ((px_up s 7 0 (s 48 0)) 48 1)) 7 2 ((px_up (px_up s 7 0 (s 48 0)) 7 1 ((px_up s 7 0 (s 48 0)) 48 1)) 48 2)) 7 3 ((px_up (px_up (px_up s 7 0 (s 48 0)) 7 1 ((px_up s 7 0 (s 48 0)) 48 1)) 7 2 ((px_up (px_up s 7 0 (s 48 0)) 7 1 ((px_up s 7 0 (s 48 0)) 48 1)) 48 2)) 48 3)) 7 4 ((px_up (px_up (px_up (px_up s 7 0 (s 48 0)) 7 1 ((px_up s 7 0 (s 48 0)) 48 1)) 7 2 ((px_up (px_up s 7 0 (s 48 0)) 7 1 ((px_up s 7 0 (s 48 0)) 48 1)) 48 2)) 7 3 ((px_up (px_up (px_up s 7 0 (s 48 0)) 7 1 ((px_up s 7 0 (s 48 0)) 48 1)) 7 2 ((px_up (px_up s 7 0 (s 48 0)) 7 1 ((px_up s 7 0 (s 48 0)) 48 1)) 48 2)) 48 3)) 48 4)) 48 5)) 48 6) = 1
  case neg => rw [if_neg hc1] at h; cases h
  rw [if_pos hc1] at h
  refine px_D_putz (k := 2) rfl rfl rfl rfl hc1 ?_
  refine px_D_st 36 (ip1 := 64) (ls1 := [(0, .inr (.inr 7)), (1, .inr (.inr 48))]) (st1 := []) (h1 := (px_G1, px_cp (px_cp (px_cp (px_cp (px_up (px_up (px_up (px_up (px_up (px_up (px_up (px_up s 7 0 (s 48 0)) 7 1 ((px_up s 7 0 (s 48 0)) 48 1)) 7 2 ((px_up (px_up s 7 0 (s 48 0)) 7 1 ((px_up s 7 0 (s 48 0)) 48 1)) 48 2)) 7 3 ((px_up (px_up (px_up s 7 0 (s 48 0)) 7 1 ((px_up s 7 0 (s 48 0)) 48 1)) 7 2 ((px_up (px_up s 7 0 (s 48 0)) 7 1 ((px_up s 7 0 (s 48 0)) 48 1)) 48 2)) 48 3)) 7 4 ((px_up (px_up (px_up (px_up s 7 0 (s 48 0)) 7 1 ((px_up s 7 0 (s 48 0)) 48 1)) 7 2 ((px_up (px_up s 7 0 (s 48 0)) 7 1 ((px_up s 7 0 (s 48 0)) 48 1)) 48 2)) 7 3 ((px_up (px_up (px_up s 7 0 (s 48 0)) 7 1 ((px_up s 7 0 (s 48 0)) 48 1)) 7 2 ((px_up (px_up s 7 0 (s 48 0)) 7 1 ((px_up s 7 0 (s 48 0)) 48 1)) 48 2)) 48 3)) 48 4)) 7 5 ((px_up (px_up (px_up (px_up (px_up s 7 0 (s 48 0)) 7 1 ((px_up s 7 0 (s 48 0)) 48 1)) 7 2 ((px_up (px_up s 7 0 (s 48 0)) 7 1 ((px_up s 7 0 (s 48 0)) 48 1)) 48 2)) 7 3 ((px_up (px_up (px_up s 7 0 (s 48 0)) 7 1 ((px_up s 7 0 (s 48 0)) 48 1)) 7 2 ((px_up (px_up s 7 0 (s 48 0)) 7 1 ((px_up s 7 0 (s 48 0)) 48 1)) 48 2)) 48 3)) 7 4 ((px_up (px_up (px_up (px_up s 7 0 (s 48 0)) 7 1 ((px_up s 7 0 (s 48 0)) 48 1)) 7 2 ((px_up (px_up s 7 0 (s 48 0)) 7 1 ((px_up s 7 0 (s 48 0)) 48 1)) 48 2)) 7 3 ((px_up (px_up (px_up s 7 0 (s 48 0)) 7 1 ((px_up s 7 0 (s 48 0)) 48 1)) 7 2 ((px_up (px_up s 7 0 (s 48 0)) 7 1 ((px_up s 7 0 (s 48 0)) 48 1)) 48 2)) 48 3)) 48 4)) 48 5)) 7 6 ((px_up (px_up (px_up (px_up (px_up (px_up s 7 0 (s 48 0)) 7 1 ((px_up s 7 0 (s 48 0)) 48 1)) 7 2 ((px_up (px_up s 7 0 (s 48 0)) 7 1 ((px_up s 7 0 (s 48 0)) 48 1)) 48 2)) 7 3 ((px_up (px_up (px_up s 7 0 (s 48 0)) 7 1 ((px_up s 7 0 (s 48 0)) 48 1)) 7 2 ((px_up (px_up s 7 0 (s 48 0)) 7 1 ((px_up s 7 0 (s 48 0)) 48 1)) 48 2)) 48 3)) 7 4 ((px_up (px_up (px_up (px_up s 7 0 (s 48 0)) 7 1 ((px_up s 7 0 (s 48 0)) 48 1)) 7 2 ((px_up (px_up s 7 0 (s 48 0)) 7 1 ((px_up s 7 0 (s 48 0)) 48 1)) 48 2)) 7 3 ((px_up (px_up (px_up s 7 0 (s 48 0)) 7 1 ((px_up s 7 0 (s 48 0)) 48 1)) 7 2 ((px_up (px_up s 7 0 (s 48 0)) 7 1 ((px_up s 7 0 (s 48 0)) 48 1)) 48 2)) 48 3)) 48 4)) 7 5 ((px_up (px_up (px_up (px_up (px_up s 7 0 (s 48 0)) 7 1 ((px_up s 7 0 (s 48 0)) 48 1)) 7 2 ((px_up (px_up s 7 0 (s 48 0)) 7 1 ((px_up s 7 0 (s 48 0)) 48 1)) 48 2)) 7 3 ((px_up (px_up (px_up s 7 0 (s 48 0)) 7 1 ((px_up s 7 0 (s 48 0)) 48 1)) 7 2 ((px_up (px_up s 7 0 (s 48 0)) 7 1 ((px_up s 7 0 (s 48 0)) 48 1)) 48 2)) 48 3)) 7 4 ((px_up (px_up (px_up (px_up s 7 0 (s 48 0)) 7 1 ((px_up s 7 0 (s 48 0)) 48 1)) 7 2 ((px_up (px_up s 7 0 (s 48 0)) 7 1 ((px_up s 7 0 (s 48 0)) 48 1)) 48 2)) 7 3 ((px_up (px_up (px_up s 7 0 (s 48 0)) 7 1 ((px_up s 7 0 (s 48 0)) 48 1)) 7 2 ((px_up (px_up s 7 0 (s 48 0)) 7 1 ((px_up s 7 0 (s 48 0)) 48 1)) 48 2)) 48 3)) 48 4)) 48 5)) 48 6)) 7 7 ((px_up (px_up (px_up (px_up (px_up (px_up (px_up s 7 0 (s 48 0)) 7 1 ((px_up s 7 0 (s 48 0)) 48 1)) 7 2 ((px_up (px_up s 7 0 (s 48 0)) 7 1 ((px_up s 7 0 (s 48 0)) 48 1)) 48 2)) 7 3 ((px_up (px_up (px_up s 7 0 (s 48 0)) 7 1 ((px_up s 7 0 (s 48 0)) 48 1)) 7 2 ((px_up (px_up s 7 0 (s 48 0)) 7 1 ((px_up s 7 0 (s 48 0)) 48 1)) 48 2)) 48 3)) 7 4 ((px_up (px_up (px_up (px_up s 7 0 (s 48 0)) 7 1 ((px_up s 7 0 (s 48 0)) 48 1)) 7 2 ((px_up (px_up s 7 0 (s 48 0)) 7 1 ((px_up s 7 0 (s 48 0)) 48 1)) 48 2)) 7 3 ((px_up (px_up (px_up s 7 0 (s 48 0)) 7 1 ((px_up s 7 0 (s 48 0)) 48 1)) 7 2 ((px_up (px_up s 7 0 (s 48 0)) 7 1 ((px_up s 7 0 (s 48 0)) 48 1)) 48 2)) 48 3)) 48 4)) 7 5 ((px_up (px_up (px_up (px_up (px_up s 7 0 (s 48 0)) 7 1 ((px_up s 7 0 (s 48 0)) 48 1)) 7 2 ((px_up (px_up s 7 0 (s 48 0)) 7 1 ((px_up s 7 0 (s 48 0)) 48 1)) 48 2)) 7 3 ((px_up (px_up (px_up s 7 0 (s 48 0)) 7 1 ((px_up s 7 0 (s 48 0)) 48 1)) 7 2 ((px_up (px_up s 7 0 (s 48 0)) 7 1 ((px_up s 7 0 (s 48 0)) 48 1)) 48 2)) 48 3)) 7 4 ((px_up (px_up (px_up (px_up s 7 0 (s 48 0)) 7 1 ((px_up s 7 0 (s 48 0)) 48 1)) 7 2 ((px_up (px_up s 7 0 (s 48 0)) 7 1 ((px_up s 7 0 (s 48 0)) 48 1)) 48 2)) 7 3 ((px_up (px_up (px_up s 7 0 (s 48 0)) 7 1 ((px_up s 7 0 (s 48 0)) 48 1)) 7 2 ((px_up (px_up s 7 0 (s 48 0)) 7 1 ((px_up s 7 0 (s 48 0)) 48 1)) 48 2)) 48 3)) 48 4)) 48 5)) 7 6 ((px_up (px_up (px_up (px_up (px_up (px_up s 7 0 (s 48 0)) 7 1 ((px_up s 7 0 (s 48 0)) 48 1)) 7 2 ((px_up (px_up s 7 0 (s 48 0)) 7 1 ((px_up s 7 0 (s 48 0)) 48 1)) 48 2)) 7 3 ((px_up (px_up (px_up s 7 0 (s 48 0)) 7 1 ((px_up s 7 0 (s 48 0)) 48 1)) 7 2 ((px_up (px_up s 7 0 (s 48 0)) 7 1 ((px_up s 7 0 (s 48 0)) 48 1)) 48 2)) 48 3)) 7 4 ((px_up (px_up (px_up (px_up s 7 0 (s 48 0)) 7 1 ((px_up s 7 0 (s 48 0)) 48 1)) 7 2 ((px_up (px_up s 7 0 (s 48 0)) 7 1 ((px_up s 7 0 (s 48 0)) 48 1)) 48 2)) 7 3 ((px_up (px_up (px_up s 7 0 (s 48 0)) 7 1 ((px_up s 7 0 (s 48 0)) 48 1)) 7 2 ((px_up (px_up s 7 0 (s 48 0)) 7 1 ((px_up s 7 0 (s 48 0)) 48 1)) 48 2)) 48 3)) 48 4)) 7 5 ((px_up (px_up (px_up (px_up (px_up s 7 0 (s 48 0)) 7 1 ((px_up s 7 0 (s 48 0)) 48 1)) 7 2 ((px_up (px_up s 7 0 (s 48 0)) 7 1 ((px_up s 7 0 (s 48 0)) 48 1)) 48 2)) 7 3 ((px_up (px_up (px_up s 7 0 (s 48 0)) 7 1 ((px_up s 7 0 (s 48 0)) 48 1)) 7 2 ((px_up (px_up s 7 0 (s 48 0)) 7 1 ((px_up s 7 0 (s 48 0)) 48 1)) 48 2)) 48 3)) 7 4 ((px_up (px_up (px_up (px_up s 7 0 (s 48 0)) 7 1 ((px_up s 7 0 (s 48 0)) 48 1)) 7 2 ((px_up (px_up s 7 0 (s 48 0)) 7 1 ((px_up s 7 0 (s 48 0)) 48 1)) 48 2)) 7 3 ((px_up (px_up (px_up s 7 0 (s 48 0)) 7 1 ((px_up s 7 0 (s 48 0)) 48 1)) 7 2 ((px_up (px_up s 7 0 (s 48 0)) 7 1 ((px_up s 7 0 (s 48 0)) 48 1)) 48 2)) 48 3)) 48 4)) 48 5)) 48 6)) 48 7)) 49 8 0 0 8) 50 9 0 0 8) 51 10 0 0 8) 52 11 0 0 8)) rfl ?_
  cases h
  exact px_D_vret rfl ⟨rfl, rfl⟩

def f_Told_become_2 (s : px_Z) : Option (px_Z) := some (px_cp (px_cp (px_cp (px_cp (px_cp (px_cp (px_up (px_up (px_up s 38 0 (s 79 0)) 38 1 ((px_up s 38 0 (s 79 0)) 79 1)) 38 2 ((px_up (px_up s 38 0 (s 79 0)) 38 1 ((px_up s 38 0 (s 79 0)) 79 1)) 79 2)) 80 39 0 0 8) 81 40 0 0 12) 82 41 0 0 12) 83 42 0 0 12) 84 43 0 0 12) 85 44 0 0 12)
set_option maxHeartbeats 4000000 in
set_option maxRecDepth 100000 in
theorem c_Told_become_2 {sc : List Int} {d : Nat} {s : px_Z} {out : px_Z} (h : f_Told_become_2 s  = some out) : px_D sc (d + 0) 64 0 [(0, .inr (.inr 38)), (1, .inr (.inr 79))] [] (px_G1, s) (px_Qv out) := by
  unfold f_Told_become_2 at h
  refine px_D_st 60 (ip1 := 60) (ls1 := [(0, .inr (.inr 38)), (1, .inr (.inr 79))]) (st1 := []) (h1 := (px_G1, px_cp (px_cp (px_cp (px_cp (px_cp (px_cp (px_up (px_up (px_up s 38 0 (s 79 0)) 38 1 ((px_up s 38 0 (s 79 0)) 79 1)) 38 2 ((px_up (px_up s 38 0 (s 79 0)) 38 1 ((px_up s 38 0 (s 79 0)) 79 1)) 79 2)) 80 39 0 0 8) 81 40 0 0 12) 82 41 0 0 12) 83 42 0 0 12) 84 43 0 0 12) 85 44 0 0 12)) rfl ?_
  cases h
  exact px_D_vret rfl ⟨rfl, rfl⟩

def f_Plan_become_3 (s : px_Z) : Option (px_Z) := some (px_cp (px_cp (px_cp (px_up s 34 0 (s 75 0)) 76 35 0 0 60) 77 36 0 0 60) 78 37 0 0 60)
set_option maxHeartbeats 4000000 in
set_option maxRecDepth 100000 in
theorem c_Plan_become_3 {sc : List Int} {d : Nat} {s : px_Z} {out : px_Z} (h : f_Plan_become_3 s  = some out) : px_D sc (d + 0) 35 0 [(0, .inr (.inr 34)), (1, .inr (.inr 75))] [] (px_G1, s) (px_Qv out) := by
  unfold f_Plan_become_3 at h
  refine px_D_st 28 (ip1 := 28) (ls1 := [(0, .inr (.inr 34)), (1, .inr (.inr 75))]) (st1 := []) (h1 := (px_G1, px_cp (px_cp (px_cp (px_up s 34 0 (s 75 0)) 76 35 0 0 60) 77 36 0 0 60) 78 37 0 0 60)) rfl ?_
  cases h
  exact px_D_vret rfl ⟨rfl, rfl⟩

def f_Law_become_6 (s : px_Z) : Option (px_Z) := some (px_cp (px_cp (px_cp (px_cp (px_cp (px_up (px_up s 21 0 (s 62 0)) 21 1 ((px_up s 21 0 (s 62 0)) 62 1)) 63 22 0 0 16) 64 23 0 0 16) 65 24 0 0 16) 66 25 0 0 16) 67 26 0 0 400)
set_option maxHeartbeats 4000000 in
set_option maxRecDepth 100000 in
theorem c_Law_become_6 {sc : List Int} {d : Nat} {s : px_Z} {out : px_Z} (h : f_Law_become_6 s  = some out) : px_D sc (d + 0) 13 0 [(0, .inr (.inr 21)), (1, .inr (.inr 62))] [] (px_G1, s) (px_Qv out) := by
  unfold f_Law_become_6 at h
  refine px_D_st 48 (ip1 := 48) (ls1 := [(0, .inr (.inr 21)), (1, .inr (.inr 62))]) (st1 := []) (h1 := (px_G1, px_cp (px_cp (px_cp (px_cp (px_cp (px_up (px_up s 21 0 (s 62 0)) 21 1 ((px_up s 21 0 (s 62 0)) 62 1)) 63 22 0 0 16) 64 23 0 0 16) 65 24 0 0 16) 66 25 0 0 16) 67 26 0 0 400)) rfl ?_
  cases h
  exact px_D_vret rfl ⟨rfl, rfl⟩

def f_Hills_become_3 (s : px_Z) : Option (px_Z) := some (px_cp (px_cp (px_cp (px_cp (px_cp (px_up s 28 0 (s 69 0)) 70 29 0 0 24) 71 30 0 0 24) 72 31 0 0 24) 73 32 0 0 24) 74 33 0 0 24)
set_option maxHeartbeats 4000000 in
set_option maxRecDepth 100000 in
theorem c_Hills_become_3 {sc : List Int} {d : Nat} {s : px_Z} {out : px_Z} (h : f_Hills_become_3 s  = some out) : px_D sc (d + 0) 4 0 [(0, .inr (.inr 28)), (1, .inr (.inr 69))] [] (px_G1, s) (px_Qv out) := by
  unfold f_Hills_become_3 at h
  refine px_D_st 44 (ip1 := 44) (ls1 := [(0, .inr (.inr 28)), (1, .inr (.inr 69))]) (st1 := []) (h1 := (px_G1, px_cp (px_cp (px_cp (px_cp (px_cp (px_up s 28 0 (s 69 0)) 70 29 0 0 24) 71 30 0 0 24) 72 31 0 0 24) 73 32 0 0 24) 74 33 0 0 24)) rfl ?_
  cases h
  exact px_D_vret rfl ⟨rfl, rfl⟩

def f_World_tellAfter_3 (s : px_Z) (x2 : Int) : Option (px_Z) := some (px_up (px_cp s 54 13 0 0 8) 6 7 x2)
set_option maxHeartbeats 4000000 in
set_option maxRecDepth 100000 in
theorem c_World_tellAfter_3 {sc : List Int} {d : Nat} {s : px_Z} {x2 : Int} {out : px_Z} (h : f_World_tellAfter_3 s x2 = some out) : px_D sc (d + 0) 80 0 [(0, .inr (.inr 6)), (1, .inr (.inr 54)), (2, .inl (x2))] [] (px_G1, s) (px_Qv out) := by
  unfold f_World_tellAfter_3 at h
  refine px_D_st 10 (ip1 := 10) (ls1 := [(0, .inr (.inr 6)), (1, .inr (.inr 54)), (2, .inl (x2))]) (st1 := []) (h1 := (px_G1, px_up (px_cp s 54 13 0 0 8) 6 7 x2)) rfl ?_
  cases h
  exact px_D_vret rfl ⟨rfl, rfl⟩

def f_World_become_2 (s : px_Z) : Option (px_Z) := (f_Fate_become_14 s ).bind (fun q1 => (f_World_tellAfter_3 (px_cp (px_up (px_up (px_up (px_up q1 6 1 (q1 47 1)) 6 2 ((px_up q1 6 1 (q1 47 1)) 47 2)) 6 3 ((px_up (px_up q1 6 1 (q1 47 1)) 6 2 ((px_up q1 6 1 (q1 47 1)) 47 2)) 47 3)) 6 4 ((px_up (px_up (px_up q1 6 1 (q1 47 1)) 6 2 ((px_up q1 6 1 (q1 47 1)) 47 2)) 6 3 ((px_up (px_up q1 6 1 (q1 47 1)) 6 2 ((px_up q1 6 1 (q1 47 1)) 47 2)) 47 3)) 47 4)) 53 12 0 0 8) ((px_cp (px_up (px_up (px_up (px_up q1 6 1 (q1 47 1)) 6 2 ((px_up q1 6 1 (q1 47 1)) 47 2)) 6 3 ((px_up (px_up q1 6 1 (q1 47 1)) 6 2 ((px_up q1 6 1 (q1 47 1)) 47 2)) 47 3)) 6 4 ((px_up (px_up (px_up q1 6 1 (q1 47 1)) 6 2 ((px_up q1 6 1 (q1 47 1)) 47 2)) 6 3 ((px_up (px_up q1 6 1 (q1 47 1)) 6 2 ((px_up q1 6 1 (q1 47 1)) 47 2)) 47 3)) 47 4)) 53 12 0 0 8) 47 7)).bind (fun q2 => (f_Law_become_5 q2 ).bind (fun q3 => (f_Law_become_6 q3 ).bind (fun q4 => (f_Hills_become_3 q4 ).bind (fun q5 => (f_Plan_become_3 q5 ).bind (fun q6 => (f_Told_become_2 q6 ).bind (fun q7 => some (px_cp q7 86 45 0 0 600))))))))
set_option maxHeartbeats 4000000 in
set_option maxRecDepth 100000 in
theorem c_World_become_2 {sc : List Int} {d : Nat} {s : px_Z} {out : px_Z} (h : f_World_become_2 s  = some out) : px_D sc (d + 1) 78 0 [(0, .inr (.inr 6)), (1, .inr (.inr 47))] [] (px_G1, s) (px_Qv out) := by
  unfold f_World_become_2 at h
  refine px_D_st 4 (ip1 := 4) (ls1 := [(0, .inr (.inr 6)), (1, .inr (.inr 47))]) (st1 := [.inr (.inr 48), .inr (.inr 7)]) (h1 := (px_G1, s)) rfl ?_
  refine px_D_call (as := [.inr (.inr 7), .inr (.inr 48)]) (rest := []) rfl rfl rfl rfl ?_
  obtain ⟨q1, hq1, h⟩ := Option.bind_eq_some_iff.mp h
  refine px_D_mono (c_Fate_become_14 (d := d + 0) hq1) ?_
  rintro _ _ ⟨rfl, rfl⟩
  show px_D sc (d + 1) 78 5 [(0, .inr (.inr 6)), (1, .inr (.inr 47))] [] (px_G1, q1) _
  refine px_D_st 29 (ip1 := 34) (ls1 := [(0, .inr (.inr 6)), (1, .inr (.inr 47))]) (st1 := [.inl ((px_cp (px_up (px_up (px_up (px_up q1 6 1 (q1 47 1)) 6 2 ((px_up q1 6 1 (q1 47 1)) 47 2)) 6 3 ((px_up (px_up q1 6 1 (q1 47 1)) 6 2 ((px_up q1 6 1 (q1 47 1)) 47 2)) 47 3)) 6 4 ((px_up (px_up (px_up q1 6 1 (q1 47 1)) 6 2 ((px_up q1 6 1 (q1 47 1)) 47 2)) 6 3 ((px_up (px_up q1 6 1 (q1 47 1)) 6 2 ((px_up q1 6 1 (q1 47 1)) 47 2)) 47 3)) 47 4)) 53 12 0 0 8) 47 7), .inr (.inr 54), .inr (.inr 6)]) (h1 := (px_G1, px_cp (px_up (px_up (px_up (px_up q1 6 1 (q1 47 1)) 6 2 ((px_up q1 6 1 (q1 47 1)) 47 2)) 6 3 ((px_up (px_up q1 6 1 (q1 47 1)) 6 2 ((px_up q1 6 1 (q1 47 1)) 47 2)) 47 3)) 6 4 ((px_up (px_up (px_up q1 6 1 (q1 47 1)) 6 2 ((px_up q1 6 1 (q1 47 1)) 47 2)) 6 3 ((px_up (px_up q1 6 1 (q1 47 1)) 6 2 ((px_up q1 6 1 (q1 47 1)) 47 2)) 47 3)) 47 4)) 53 12 0 0 8)) rfl ?_
  refine px_D_call (as := [.inr (.inr 6), .inr (.inr 54), .inl ((px_cp (px_up (px_up (px_up (px_up q1 6 1 (q1 47 1)) 6 2 ((px_up q1 6 1 (q1 47 1)) 47 2)) 6 3 ((px_up (px_up q1 6 1 (q1 47 1)) 6 2 ((px_up q1 6 1 (q1 47 1)) 47 2)) 47 3)) 6 4 ((px_up (px_up (px_up q1 6 1 (q1 47 1)) 6 2 ((px_up q1 6 1 (q1 47 1)) 47 2)) 6 3 ((px_up (px_up q1 6 1 (q1 47 1)) 6 2 ((px_up q1 6 1 (q1 47 1)) 47 2)) 47 3)) 47 4)) 53 12 0 0 8) 47 7)]) (rest := []) rfl rfl rfl rfl ?_
  obtain ⟨q2, hq2, h⟩ := Option.bind_eq_some_iff.mp h
  refine px_D_mono (c_World_tellAfter_3 (d := d + 0) hq2) ?_
  rintro _ _ ⟨rfl, rfl⟩
  show px_D sc (d + 1) 78 35 [(0, .inr (.inr 6)), (1, .inr (.inr 47))] [] (px_G1, q2) _
  refine px_D_st 4 (ip1 := 39) (ls1 := [(0, .inr (.inr 6)), (1, .inr (.inr 47))]) (st1 := [.inr (.inr 55), .inr (.inr 14)]) (h1 := (px_G1, q2)) rfl ?_
  refine px_D_call (as := [.inr (.inr 14), .inr (.inr 55)]) (rest := []) rfl rfl rfl rfl ?_
  obtain ⟨q3, hq3, h⟩ := Option.bind_eq_some_iff.mp h
  refine px_D_mono (c_Law_become_5 (d := d + 0) hq3) ?_
  rintro _ _ ⟨rfl, rfl⟩
  show px_D sc (d + 1) 78 40 [(0, .inr (.inr 6)), (1, .inr (.inr 47))] [] (px_G1, q3) _
  refine px_D_st 4 (ip1 := 44) (ls1 := [(0, .inr (.inr 6)), (1, .inr (.inr 47))]) (st1 := [.inr (.inr 62), .inr (.inr 21)]) (h1 := (px_G1, q3)) rfl ?_
  refine px_D_call (as := [.inr (.inr 21), .inr (.inr 62)]) (rest := []) rfl rfl rfl rfl ?_
  obtain ⟨q4, hq4, h⟩ := Option.bind_eq_some_iff.mp h
  refine px_D_mono (c_Law_become_6 (d := d + 0) hq4) ?_
  rintro _ _ ⟨rfl, rfl⟩
  show px_D sc (d + 1) 78 45 [(0, .inr (.inr 6)), (1, .inr (.inr 47))] [] (px_G1, q4) _
  refine px_D_st 4 (ip1 := 49) (ls1 := [(0, .inr (.inr 6)), (1, .inr (.inr 47))]) (st1 := [.inr (.inr 69), .inr (.inr 28)]) (h1 := (px_G1, q4)) rfl ?_
  refine px_D_call (as := [.inr (.inr 28), .inr (.inr 69)]) (rest := []) rfl rfl rfl rfl ?_
  obtain ⟨q5, hq5, h⟩ := Option.bind_eq_some_iff.mp h
  refine px_D_mono (c_Hills_become_3 (d := d + 0) hq5) ?_
  rintro _ _ ⟨rfl, rfl⟩
  show px_D sc (d + 1) 78 50 [(0, .inr (.inr 6)), (1, .inr (.inr 47))] [] (px_G1, q5) _
  refine px_D_st 4 (ip1 := 54) (ls1 := [(0, .inr (.inr 6)), (1, .inr (.inr 47))]) (st1 := [.inr (.inr 75), .inr (.inr 34)]) (h1 := (px_G1, q5)) rfl ?_
  refine px_D_call (as := [.inr (.inr 34), .inr (.inr 75)]) (rest := []) rfl rfl rfl rfl ?_
  obtain ⟨q6, hq6, h⟩ := Option.bind_eq_some_iff.mp h
  refine px_D_mono (c_Plan_become_3 (d := d + 0) hq6) ?_
  rintro _ _ ⟨rfl, rfl⟩
  show px_D sc (d + 1) 78 55 [(0, .inr (.inr 6)), (1, .inr (.inr 47))] [] (px_G1, q6) _
  refine px_D_st 4 (ip1 := 59) (ls1 := [(0, .inr (.inr 6)), (1, .inr (.inr 47))]) (st1 := [.inr (.inr 79), .inr (.inr 38)]) (h1 := (px_G1, q6)) rfl ?_
  refine px_D_call (as := [.inr (.inr 38), .inr (.inr 79)]) (rest := []) rfl rfl rfl rfl ?_
  obtain ⟨q7, hq7, h⟩ := Option.bind_eq_some_iff.mp h
  refine px_D_mono (c_Told_become_2 (d := d + 0) hq7) ?_
  rintro _ _ ⟨rfl, rfl⟩
  show px_D sc (d + 1) 78 60 [(0, .inr (.inr 6)), (1, .inr (.inr 47))] [] (px_G1, q7) _
  refine px_D_st 10 (ip1 := 70) (ls1 := [(0, .inr (.inr 6)), (1, .inr (.inr 47))]) (st1 := []) (h1 := (px_G1, px_cp q7 86 45 0 0 600)) rfl ?_
  cases h
  exact px_D_vret rfl ⟨rfl, rfl⟩

def f_R_image (s : px_Z) (x1 : Int) : Option (Int × px_Z) := if (x1) = (0) then (if (s 5 2) = (0) then some (0, s) else (f_World_become_2 s ).bind (fun q3 => (f_R_forgetDeeds q3 ).bind (fun q4 => some (1, q4)))) else (f_World_become s ).bind (fun q5 => some (1, px_up q5 5 2 1))
set_option maxHeartbeats 4000000 in
set_option maxRecDepth 100000 in
theorem c_R_image {sc : List Int} {d : Nat} {s : px_Z} {x1 : Int} {out : Int × px_Z} (h : f_R_image s x1 = some out) : px_D sc (d + 2) 136 0 [(0, .inr (.inr 5)), (1, .inl (x1))] [] (px_G1, s) (px_Qi out) := by
  unfold f_R_image at h
  refine px_D_st 1 (ip1 := 1) (ls1 := [(0, .inr (.inr 5)), (1, .inl (x1))]) (st1 := [.inl (x1)]) (h1 := (px_G1, s)) rfl ?_
  refine px_D_ifc rfl (fun hc => ?_) (fun hc => ?_)
  · have hc1 : (x1) = (0) := of_decide_eq_true hc
    rw [if_pos hc1] at h
    refine px_D_st 2 (ip1 := 14) (ls1 := [(0, .inr (.inr 5)), (1, .inl (x1))]) (st1 := [.inl (s 5 2)]) (h1 := (px_G1, s)) rfl ?_
    refine px_D_ifc rfl (fun hc => ?_) (fun hc => ?_)
    · have hc2 : ¬ ((s 5 2) = (0)) := of_decide_eq_true hc
      rw [if_neg hc2] at h
      refine px_D_st 4 (ip1 := 21) (ls1 := [(0, .inr (.inr 5)), (1, .inl (x1))]) (st1 := [.inr (.inr 47), .inr (.inr 6)]) (h1 := (px_G1, s)) rfl ?_
      refine px_D_call (as := [.inr (.inr 6), .inr (.inr 47)]) (rest := []) rfl rfl rfl rfl ?_
      obtain ⟨q3, hq3, h⟩ := Option.bind_eq_some_iff.mp h
      refine px_D_mono (c_World_become_2 (d := d + 0) hq3) ?_
      rintro _ _ ⟨rfl, rfl⟩
      show px_D sc (d + 2) 136 22 [(0, .inr (.inr 5)), (1, .inl (x1))] [] (px_G1, q3) _
      refine px_D_st 1 (ip1 := 23) (ls1 := [(0, .inr (.inr 5)), (1, .inl (x1))]) (st1 := [.inr (.inr 5)]) (h1 := (px_G1, q3)) rfl ?_
      refine px_D_call (as := [.inr (.inr 5)]) (rest := []) rfl rfl rfl rfl ?_
      obtain ⟨q4, hq4, h⟩ := Option.bind_eq_some_iff.mp h
      refine px_D_mono (c_R_forgetDeeds (d := d + 0) hq4) ?_
      rintro _ _ ⟨rfl, rfl⟩
      show px_D sc (d + 2) 136 24 [(0, .inr (.inr 5)), (1, .inl (x1))] [] (px_G1, q4) _
      refine px_D_st 1 (ip1 := 25) (ls1 := [(0, .inr (.inr 5)), (1, .inl (x1))]) (st1 := [.inl (1)]) (h1 := (px_G1, q4)) rfl ?_
      cases h
      exact px_D_iret rfl rfl ⟨rfl, rfl⟩
    · have hc2 : (s 5 2) = (0) := Decidable.of_not_not (of_decide_eq_false hc)
      rw [if_pos hc2] at h
      refine px_D_st 1 (ip1 := 16) (ls1 := [(0, .inr (.inr 5)), (1, .inl (x1))]) (st1 := [.inl (0)]) (h1 := (px_G1, s)) rfl ?_
      cases h
      exact px_D_iret rfl rfl ⟨rfl, rfl⟩
  · have hc1 : ¬ ((x1) = (0)) := of_decide_eq_false hc
    rw [if_neg hc1] at h
    refine px_D_st 4 (ip1 := 6) (ls1 := [(0, .inr (.inr 5)), (1, .inl (x1))]) (st1 := [.inr (.inr 6), .inr (.inr 47)]) (h1 := (px_G1, s)) rfl ?_
    refine px_D_call (as := [.inr (.inr 47), .inr (.inr 6)]) (rest := []) rfl rfl rfl rfl ?_
    obtain ⟨q5, hq5, h⟩ := Option.bind_eq_some_iff.mp h
    refine px_D_mono (c_World_become (d := d + 0) hq5) ?_
    rintro _ _ ⟨rfl, rfl⟩
    show px_D sc (d + 2) 136 7 [(0, .inr (.inr 5)), (1, .inl (x1))] [] (px_G1, q5) _
    refine px_D_st 4 (ip1 := 11) (ls1 := [(0, .inr (.inr 5)), (1, .inl (x1))]) (st1 := [.inl (1)]) (h1 := (px_G1, px_up q5 5 2 1)) rfl ?_
    cases h
    exact px_D_iret rfl rfl ⟨rfl, rfl⟩

def f_R_lookAtTold (s : px_Z) (x1 : Int) : Int := if (x1) = 9 then s 14 0 else (if (x1) = 10 then s 21 0 else (if (x1) = 11 then s 28 0 else (if (x1) = 12 then s 6 7 else (if (x1) = 13 then s 34 0 else (if (x1) = 14 then s 38 0 else (if (x1) = 15 then s 38 1 else (if (x1) = 16 then s 38 2 else (-1000))))))))
set_option maxHeartbeats 4000000 in
set_option maxRecDepth 100000 in
theorem c_R_lookAtTold {sc : List Int} {d : Nat} {s : px_Z} {x1 : Int} {out : Int} (h : f_R_lookAtTold s x1 = out) : px_D sc (d + 0) 138 0 [(0, .inr (.inr 5)), (1, .inl (x1))] [] (px_G1, s) (px_Qp s out) := by
  unfold f_R_lookAtTold at h
  refine px_D_st 1 (ip1 := 1) (ls1 := [(0, .inr (.inr 5)), (1, .inl (x1))]) (st1 := [.inl (x1)]) (h1 := (px_G1, s)) rfl ?_
  by_cases hc1 : (x1) = 9
  · rw [if_pos hc1] at h
    refine px_D_tsw (c := 9) rfl hc1 (by decide) rfl ?_
    refine px_D_st 4 (ip1 := 6) (ls1 := [(0, .inr (.inr 5)), (1, .inl (x1))]) (st1 := [.inl (s 14 0)]) (h1 := (px_G1, s)) rfl ?_
    subst h
    exact px_D_iret rfl rfl ⟨rfl, rfl⟩
  rw [if_neg hc1] at h
  by_cases hc2 : (x1) = 10
  · rw [if_pos hc2] at h
    refine px_D_tsw (c := 10) rfl hc2 (by decide) rfl ?_
    refine px_D_st 4 (ip1 := 11) (ls1 := [(0, .inr (.inr 5)), (1, .inl (x1))]) (st1 := [.inl (s 21 0)]) (h1 := (px_G1, s)) rfl ?_
    subst h
    exact px_D_iret rfl rfl ⟨rfl, rfl⟩
  rw [if_neg hc2] at h
  by_cases hc3 : (x1) = 11
  · rw [if_pos hc3] at h
    refine px_D_tsw (c := 11) rfl hc3 (by decide) rfl ?_
    refine px_D_st 4 (ip1 := 16) (ls1 := [(0, .inr (.inr 5)), (1, .inl (x1))]) (st1 := [.inl (s 28 0)]) (h1 := (px_G1, s)) rfl ?_
    subst h
    exact px_D_iret rfl rfl ⟨rfl, rfl⟩
  rw [if_neg hc3] at h
  by_cases hc4 : (x1) = 12
  · rw [if_pos hc4] at h
    refine px_D_tsw (c := 12) rfl hc4 (by decide) rfl ?_
    refine px_D_st 3 (ip1 := 20) (ls1 := [(0, .inr (.inr 5)), (1, .inl (x1))]) (st1 := [.inl (s 6 7)]) (h1 := (px_G1, s)) rfl ?_
    subst h
    exact px_D_iret rfl rfl ⟨rfl, rfl⟩
  rw [if_neg hc4] at h
  by_cases hc5 : (x1) = 13
  · rw [if_pos hc5] at h
    refine px_D_tsw (c := 13) rfl hc5 (by decide) rfl ?_
    refine px_D_st 4 (ip1 := 25) (ls1 := [(0, .inr (.inr 5)), (1, .inl (x1))]) (st1 := [.inl (s 34 0)]) (h1 := (px_G1, s)) rfl ?_
    subst h
    exact px_D_iret rfl rfl ⟨rfl, rfl⟩
  rw [if_neg hc5] at h
  by_cases hc6 : (x1) = 14
  · rw [if_pos hc6] at h
    refine px_D_tsw (c := 14) rfl hc6 (by decide) rfl ?_
    refine px_D_st 4 (ip1 := 30) (ls1 := [(0, .inr (.inr 5)), (1, .inl (x1))]) (st1 := [.inl (s 38 0)]) (h1 := (px_G1, s)) rfl ?_
    subst h
    exact px_D_iret rfl rfl ⟨rfl, rfl⟩
  rw [if_neg hc6] at h
  by_cases hc7 : (x1) = 15
  · rw [if_pos hc7] at h
    refine px_D_tsw (c := 15) rfl hc7 (by decide) rfl ?_
    refine px_D_st 4 (ip1 := 35) (ls1 := [(0, .inr (.inr 5)), (1, .inl (x1))]) (st1 := [.inl (s 38 1)]) (h1 := (px_G1, s)) rfl ?_
    subst h
    exact px_D_iret rfl rfl ⟨rfl, rfl⟩
  rw [if_neg hc7] at h
  by_cases hc8 : (x1) = 16
  · rw [if_pos hc8] at h
    refine px_D_tsw (c := 16) rfl hc8 (by decide) rfl ?_
    refine px_D_st 4 (ip1 := 40) (ls1 := [(0, .inr (.inr 5)), (1, .inl (x1))]) (st1 := [.inl (s 38 2)]) (h1 := (px_G1, s)) rfl ?_
    subst h
    exact px_D_iret rfl rfl ⟨rfl, rfl⟩
  rw [if_neg hc8] at h
  refine px_D_tswD rfl (by omega) ?_
  refine px_D_st 1 (ip1 := 42) (ls1 := [(0, .inr (.inr 5)), (1, .inl (x1))]) (st1 := [.inl ((-1000))]) (h1 := (px_G1, s)) rfl ?_
  subst h
  exact px_D_iret rfl rfl ⟨rfl, rfl⟩

def f_R_look (s : px_Z) (x1 : Int) : Option (Int) := if (x1) = 0 then some (s 6 1) else (if (x1) = 1 then (f_World_homeSet s ).bind (fun q3 => some q3) else (if (x1) = 2 then some (s 7 4) else (if (x1) = 3 then some (s 7 1) else (if (x1) = 4 then some (s 7 2) else (if (x1) = 5 then some (s 7 3) else (if (x1) = 6 then some (s 7 5) else (if (x1) = 7 then some (s 7 7) else (if (x1) = 8 then some (s 7 0) else (if (x1) = 17 then some (s 88 2) else (if (x1) = 20 then some (s 6 2) else (if (x1) = 21 then some (s 6 3) else (if (x1) = 22 then some (s 6 4) else some (f_R_lookAtTold s x1)))))))))))))
set_option maxHeartbeats 4000000 in
set_option maxRecDepth 100000 in
theorem c_R_look {sc : List Int} {d : Nat} {s : px_Z} {x1 : Int} {out : Int} (h : f_R_look s x1 = some out) : px_D sc (d + 1) 137 0 [(0, .inr (.inr 5)), (1, .inl (x1))] [] (px_G1, s) (px_Qp s out) := by
  unfold f_R_look at h
  refine px_D_st 1 (ip1 := 1) (ls1 := [(0, .inr (.inr 5)), (1, .inl (x1))]) (st1 := [.inl (x1)]) (h1 := (px_G1, s)) rfl ?_
  by_cases hc1 : (x1) = 0
  · rw [if_pos hc1] at h
    refine px_D_tsw (c := 0) rfl hc1 (by decide) rfl ?_
    refine px_D_st 3 (ip1 := 5) (ls1 := [(0, .inr (.inr 5)), (1, .inl (x1))]) (st1 := [.inl (s 6 1)]) (h1 := (px_G1, s)) rfl ?_
    cases h
    exact px_D_iret rfl rfl ⟨rfl, rfl⟩
  rw [if_neg hc1] at h
  by_cases hc2 : (x1) = 1
  · rw [if_pos hc2] at h
    refine px_D_tsw (c := 1) rfl hc2 (by decide) rfl ?_
    refine px_D_st 2 (ip1 := 8) (ls1 := [(0, .inr (.inr 5)), (1, .inl (x1))]) (st1 := [.inr (.inr 6)]) (h1 := (px_G1, s)) rfl ?_
    refine px_D_call (as := [.inr (.inr 6)]) (rest := []) rfl rfl rfl rfl ?_
    obtain ⟨q3, hq3, h⟩ := Option.bind_eq_some_iff.mp h
    refine px_D_mono (c_World_homeSet (d := d + 0) hq3) ?_
    rintro _ _ ⟨rfl, rfl⟩
    show px_D sc (d + 1) 137 9 [(0, .inr (.inr 5)), (1, .inl (x1))] [.inl (q3)] (px_G1, s) _
    cases h
    exact px_D_iret rfl rfl ⟨rfl, rfl⟩
  rw [if_neg hc2] at h
  by_cases hc4 : (x1) = 2
  · rw [if_pos hc4] at h
    refine px_D_tsw (c := 2) rfl hc4 (by decide) rfl ?_
    refine px_D_st 4 (ip1 := 14) (ls1 := [(0, .inr (.inr 5)), (1, .inl (x1))]) (st1 := [.inl (s 7 4)]) (h1 := (px_G1, s)) rfl ?_
    cases h
    exact px_D_iret rfl rfl ⟨rfl, rfl⟩
  rw [if_neg hc4] at h
  by_cases hc5 : (x1) = 3
  · rw [if_pos hc5] at h
    refine px_D_tsw (c := 3) rfl hc5 (by decide) rfl ?_
    refine px_D_st 4 (ip1 := 19) (ls1 := [(0, .inr (.inr 5)), (1, .inl (x1))]) (st1 := [.inl (s 7 1)]) (h1 := (px_G1, s)) rfl ?_
    cases h
    exact px_D_iret rfl rfl ⟨rfl, rfl⟩
  rw [if_neg hc5] at h
  by_cases hc6 : (x1) = 4
  · rw [if_pos hc6] at h
    refine px_D_tsw (c := 4) rfl hc6 (by decide) rfl ?_
    refine px_D_st 4 (ip1 := 24) (ls1 := [(0, .inr (.inr 5)), (1, .inl (x1))]) (st1 := [.inl (s 7 2)]) (h1 := (px_G1, s)) rfl ?_
    cases h
    exact px_D_iret rfl rfl ⟨rfl, rfl⟩
  rw [if_neg hc6] at h
  by_cases hc7 : (x1) = 5
  · rw [if_pos hc7] at h
    refine px_D_tsw (c := 5) rfl hc7 (by decide) rfl ?_
    refine px_D_st 4 (ip1 := 29) (ls1 := [(0, .inr (.inr 5)), (1, .inl (x1))]) (st1 := [.inl (s 7 3)]) (h1 := (px_G1, s)) rfl ?_
    cases h
    exact px_D_iret rfl rfl ⟨rfl, rfl⟩
  rw [if_neg hc7] at h
  by_cases hc8 : (x1) = 6
  · rw [if_pos hc8] at h
    refine px_D_tsw (c := 6) rfl hc8 (by decide) rfl ?_
    refine px_D_st 4 (ip1 := 34) (ls1 := [(0, .inr (.inr 5)), (1, .inl (x1))]) (st1 := [.inl (s 7 5)]) (h1 := (px_G1, s)) rfl ?_
    cases h
    exact px_D_iret rfl rfl ⟨rfl, rfl⟩
  rw [if_neg hc8] at h
  by_cases hc9 : (x1) = 7
  · rw [if_pos hc9] at h
    refine px_D_tsw (c := 7) rfl hc9 (by decide) rfl ?_
    refine px_D_st 4 (ip1 := 39) (ls1 := [(0, .inr (.inr 5)), (1, .inl (x1))]) (st1 := [.inl (s 7 7)]) (h1 := (px_G1, s)) rfl ?_
    cases h
    exact px_D_iret rfl rfl ⟨rfl, rfl⟩
  rw [if_neg hc9] at h
  by_cases hc10 : (x1) = 8
  · rw [if_pos hc10] at h
    refine px_D_tsw (c := 8) rfl hc10 (by decide) rfl ?_
    refine px_D_st 4 (ip1 := 44) (ls1 := [(0, .inr (.inr 5)), (1, .inl (x1))]) (st1 := [.inl (s 7 0)]) (h1 := (px_G1, s)) rfl ?_
    cases h
    exact px_D_iret rfl rfl ⟨rfl, rfl⟩
  rw [if_neg hc10] at h
  by_cases hc11 : (x1) = 17
  · rw [if_pos hc11] at h
    refine px_D_tsw (c := 17) rfl hc11 (by decide) rfl ?_
    refine px_D_st 3 (ip1 := 48) (ls1 := [(0, .inr (.inr 5)), (1, .inl (x1))]) (st1 := [.inl (s 88 2)]) (h1 := (px_G1, s)) rfl ?_
    cases h
    exact px_D_iret rfl rfl ⟨rfl, rfl⟩
  rw [if_neg hc11] at h
  by_cases hc12 : (x1) = 20
  · rw [if_pos hc12] at h
    refine px_D_tsw (c := 20) rfl hc12 (by decide) rfl ?_
    refine px_D_st 3 (ip1 := 52) (ls1 := [(0, .inr (.inr 5)), (1, .inl (x1))]) (st1 := [.inl (s 6 2)]) (h1 := (px_G1, s)) rfl ?_
    cases h
    exact px_D_iret rfl rfl ⟨rfl, rfl⟩
  rw [if_neg hc12] at h
  by_cases hc13 : (x1) = 21
  · rw [if_pos hc13] at h
    refine px_D_tsw (c := 21) rfl hc13 (by decide) rfl ?_
    refine px_D_st 3 (ip1 := 56) (ls1 := [(0, .inr (.inr 5)), (1, .inl (x1))]) (st1 := [.inl (s 6 3)]) (h1 := (px_G1, s)) rfl ?_
    cases h
    exact px_D_iret rfl rfl ⟨rfl, rfl⟩
  rw [if_neg hc13] at h
  by_cases hc14 : (x1) = 22
  · rw [if_pos hc14] at h
    refine px_D_tsw (c := 22) rfl hc14 (by decide) rfl ?_
    refine px_D_st 3 (ip1 := 60) (ls1 := [(0, .inr (.inr 5)), (1, .inl (x1))]) (st1 := [.inl (s 6 4)]) (h1 := (px_G1, s)) rfl ?_
    cases h
    exact px_D_iret rfl rfl ⟨rfl, rfl⟩
  rw [if_neg hc14] at h
  by_cases hc15 : (x1) = 9
  · refine px_D_tsw (c := 9) rfl hc15 (by decide) rfl ?_
    refine px_D_st 2 (ip1 := 63) (ls1 := [(0, .inr (.inr 5)), (1, .inl (x1))]) (st1 := [.inl (x1), .inr (.inr 5)]) (h1 := (px_G1, s)) rfl ?_
    refine px_D_call (as := [.inr (.inr 5), .inl (x1)]) (rest := []) rfl rfl rfl rfl ?_
    refine px_D_mono (c_R_lookAtTold (d := d + 0) rfl) ?_
    rintro _ _ ⟨rfl, rfl⟩
    show px_D sc (d + 1) 137 64 [(0, .inr (.inr 5)), (1, .inl (x1))] [.inl (f_R_lookAtTold s x1)] (px_G1, s) _
    cases h
    exact px_D_iret rfl rfl ⟨rfl, rfl⟩
  by_cases hc16 : (x1) = 10
  · refine px_D_tsw (c := 10) rfl hc16 (by decide) rfl ?_
    refine px_D_st 2 (ip1 := 63) (ls1 := [(0, .inr (.inr 5)), (1, .inl (x1))]) (st1 := [.inl (x1), .inr (.inr 5)]) (h1 := (px_G1, s)) rfl ?_
    refine px_D_call (as := [.inr (.inr 5), .inl (x1)]) (rest := []) rfl rfl rfl rfl ?_
    refine px_D_mono (c_R_lookAtTold (d := d + 0) rfl) ?_
    rintro _ _ ⟨rfl, rfl⟩
    show px_D sc (d + 1) 137 64 [(0, .inr (.inr 5)), (1, .inl (x1))] [.inl (f_R_lookAtTold s x1)] (px_G1, s) _
    cases h
    exact px_D_iret rfl rfl ⟨rfl, rfl⟩
  by_cases hc17 : (x1) = 11
  · refine px_D_tsw (c := 11) rfl hc17 (by decide) rfl ?_
    refine px_D_st 2 (ip1 := 63) (ls1 := [(0, .inr (.inr 5)), (1, .inl (x1))]) (st1 := [.inl (x1), .inr (.inr 5)]) (h1 := (px_G1, s)) rfl ?_
    refine px_D_call (as := [.inr (.inr 5), .inl (x1)]) (rest := []) rfl rfl rfl rfl ?_
    refine px_D_mono (c_R_lookAtTold (d := d + 0) rfl) ?_
    rintro _ _ ⟨rfl, rfl⟩
    show px_D sc (d + 1) 137 64 [(0, .inr (.inr 5)), (1, .inl (x1))] [.inl (f_R_lookAtTold s x1)] (px_G1, s) _
    cases h
    exact px_D_iret rfl rfl ⟨rfl, rfl⟩
  by_cases hc18 : (x1) = 12
  · refine px_D_tsw (c := 12) rfl hc18 (by decide) rfl ?_
    refine px_D_st 2 (ip1 := 63) (ls1 := [(0, .inr (.inr 5)), (1, .inl (x1))]) (st1 := [.inl (x1), .inr (.inr 5)]) (h1 := (px_G1, s)) rfl ?_
    refine px_D_call (as := [.inr (.inr 5), .inl (x1)]) (rest := []) rfl rfl rfl rfl ?_
    refine px_D_mono (c_R_lookAtTold (d := d + 0) rfl) ?_
    rintro _ _ ⟨rfl, rfl⟩
    show px_D sc (d + 1) 137 64 [(0, .inr (.inr 5)), (1, .inl (x1))] [.inl (f_R_lookAtTold s x1)] (px_G1, s) _
    cases h
    exact px_D_iret rfl rfl ⟨rfl, rfl⟩
  by_cases hc19 : (x1) = 13
  · refine px_D_tsw (c := 13) rfl hc19 (by decide) rfl ?_
    refine px_D_st 2 (ip1 := 63) (ls1 := [(0, .inr (.inr 5)), (1, .inl (x1))]) (st1 := [.inl (x1), .inr (.inr 5)]) (h1 := (px_G1, s)) rfl ?_
    refine px_D_call (as := [.inr (.inr 5), .inl (x1)]) (rest := []) rfl rfl rfl rfl ?_
    refine px_D_mono (c_R_lookAtTold (d := d + 0) rfl) ?_
    rintro _ _ ⟨rfl, rfl⟩
    show px_D sc (d + 1) 137 64 [(0, .inr (.inr 5)), (1, .inl (x1))] [.inl (f_R_lookAtTold s x1)] (px_G1, s) _
    cases h
    exact px_D_iret rfl rfl ⟨rfl, rfl⟩
  by_cases hc20 : (x1) = 14
  · refine px_D_tsw (c := 14) rfl hc20 (by decide) rfl ?_
    refine px_D_st 2 (ip1 := 63) (ls1 := [(0, .inr (.inr 5)), (1, .inl (x1))]) (st1 := [.inl (x1), .inr (.inr 5)]) (h1 := (px_G1, s)) rfl ?_
    refine px_D_call (as := [.inr (.inr 5), .inl (x1)]) (rest := []) rfl rfl rfl rfl ?_
    refine px_D_mono (c_R_lookAtTold (d := d + 0) rfl) ?_
    rintro _ _ ⟨rfl, rfl⟩
    show px_D sc (d + 1) 137 64 [(0, .inr (.inr 5)), (1, .inl (x1))] [.inl (f_R_lookAtTold s x1)] (px_G1, s) _
    cases h
    exact px_D_iret rfl rfl ⟨rfl, rfl⟩
  by_cases hc21 : (x1) = 15
  · refine px_D_tsw (c := 15) rfl hc21 (by decide) rfl ?_
    refine px_D_st 2 (ip1 := 63) (ls1 := [(0, .inr (.inr 5)), (1, .inl (x1))]) (st1 := [.inl (x1), .inr (.inr 5)]) (h1 := (px_G1, s)) rfl ?_
    refine px_D_call (as := [.inr (.inr 5), .inl (x1)]) (rest := []) rfl rfl rfl rfl ?_
    refine px_D_mono (c_R_lookAtTold (d := d + 0) rfl) ?_
    rintro _ _ ⟨rfl, rfl⟩
    show px_D sc (d + 1) 137 64 [(0, .inr (.inr 5)), (1, .inl (x1))] [.inl (f_R_lookAtTold s x1)] (px_G1, s) _
    cases h
    exact px_D_iret rfl rfl ⟨rfl, rfl⟩
  by_cases hc22 : (x1) = 16
  · refine px_D_tsw (c := 16) rfl hc22 (by decide) rfl ?_
    refine px_D_st 2 (ip1 := 63) (ls1 := [(0, .inr (.inr 5)), (1, .inl (x1))]) (st1 := [.inl (x1), .inr (.inr 5)]) (h1 := (px_G1, s)) rfl ?_
    refine px_D_call (as := [.inr (.inr 5), .inl (x1)]) (rest := []) rfl rfl rfl rfl ?_
    refine px_D_mono (c_R_lookAtTold (d := d + 0) rfl) ?_
    rintro _ _ ⟨rfl, rfl⟩
    show px_D sc (d + 1) 137 64 [(0, .inr (.inr 5)), (1, .inl (x1))] [.inl (f_R_lookAtTold s x1)] (px_G1, s) _
    cases h
    exact px_D_iret rfl rfl ⟨rfl, rfl⟩
  by_cases hc23 : (x1) = 18
  · refine px_D_tsw (c := 18) rfl hc23 (by decide) rfl ?_
    refine px_D_st 2 (ip1 := 63) (ls1 := [(0, .inr (.inr 5)), (1, .inl (x1))]) (st1 := [.inl (x1), .inr (.inr 5)]) (h1 := (px_G1, s)) rfl ?_
    refine px_D_call (as := [.inr (.inr 5), .inl (x1)]) (rest := []) rfl rfl rfl rfl ?_
    refine px_D_mono (c_R_lookAtTold (d := d + 0) rfl) ?_
    rintro _ _ ⟨rfl, rfl⟩
    show px_D sc (d + 1) 137 64 [(0, .inr (.inr 5)), (1, .inl (x1))] [.inl (f_R_lookAtTold s x1)] (px_G1, s) _
    cases h
    exact px_D_iret rfl rfl ⟨rfl, rfl⟩
  by_cases hc24 : (x1) = 19
  · refine px_D_tsw (c := 19) rfl hc24 (by decide) rfl ?_
    refine px_D_st 2 (ip1 := 63) (ls1 := [(0, .inr (.inr 5)), (1, .inl (x1))]) (st1 := [.inl (x1), .inr (.inr 5)]) (h1 := (px_G1, s)) rfl ?_
    refine px_D_call (as := [.inr (.inr 5), .inl (x1)]) (rest := []) rfl rfl rfl rfl ?_
    refine px_D_mono (c_R_lookAtTold (d := d + 0) rfl) ?_
    rintro _ _ ⟨rfl, rfl⟩
    show px_D sc (d + 1) 137 64 [(0, .inr (.inr 5)), (1, .inl (x1))] [.inl (f_R_lookAtTold s x1)] (px_G1, s) _
    cases h
    exact px_D_iret rfl rfl ⟨rfl, rfl⟩
  refine px_D_tswD rfl (by omega) ?_
  refine px_D_st 2 (ip1 := 63) (ls1 := [(0, .inr (.inr 5)), (1, .inl (x1))]) (st1 := [.inl (x1), .inr (.inr 5)]) (h1 := (px_G1, s)) rfl ?_
  refine px_D_call (as := [.inr (.inr 5), .inl (x1)]) (rest := []) rfl rfl rfl rfl ?_
  refine px_D_mono (c_R_lookAtTold (d := d + 0) rfl) ?_
  rintro _ _ ⟨rfl, rfl⟩
  show px_D sc (d + 1) 137 64 [(0, .inr (.inr 5)), (1, .inl (x1))] [.inl (f_R_lookAtTold s x1)] (px_G1, s) _
  cases h
  exact px_D_iret rfl rfl ⟨rfl, rfl⟩
