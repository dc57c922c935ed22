def f_Fate_become_6 (s : px_Z) : Option (px_Z) := if ((px_up (px_up (px_up (px_up (px_up (px_up s 95 0 (s 7 0)) 95 1 ((px_up s 95 0 (s 7 0)) 7 1)) 95 2 ((px_up (px_up s 95 0 (s 7 0)) 95 1 ((px_up s 95 0 (s 7 0)) 7 1)) 7 2)) 95 3 ((px_up (px_up (px_up s 95 0 (s 7 0)) 95 1 ((px_up s 95 0 (s 7 0)) 7 1)) 95 2 ((px_up (px_up s 95 0 (s 7 0)) 95 1 ((px_up s 95 0 (s 7 0)) 7 1)) 7 2)) 7 3)) 95 4 ((px_up (px_up (px_up (px_up s 95 0 (s 7 0)) 95 1 ((px_up s 95 0 (s 7 0)) 7 1)) 95 2 ((px_up (px_up s 95 0 (s 7 0)) 95 1 ((px_up s 95 0 (s 7 0)) 7 1)) 7 2)) 95 3 ((px_up (px_up (px_up s 95 0 (s 7 0)) 95 1 ((px_up s 95 0 (s 7 0)) 7 1)) 95 2 ((px_up (px_up s 95 0 (s 7 0)) 95 1 ((px_up s 95 0 (s 7 0)) 7 1)) 7 2)) 7 3)) 7 4)) 95 5 ((px_up (px_up (px_up (px_up (px_up s 95 0 (s 7 0)) 95 1 ((px_up s 95 0 (s 7 0)) 7 1)) 95 2 ((px_up (px_up s 95 0 (s 7 0)) 95 1 ((px_up s 95 0 (s 7 0)) 7 1)) 7 2)) 95 3 ((px_up (px_up (px_up s 95 0 (s 7 0)) 95 1 ((px_up s 95 0 (s 7 0)) 7 1)) 95 2 ((px_up (px_up s 95 0 (s 7 0)) 95 1 ((px_up s 95 0 (s 7 0)) 7 1)) 7 2)) 7 3)) 95 4 ((px_up (px_up (px_up (px_up s 95 0 (s 7 0)) 95 1 ((px_up s 95 0 (s 7 0)) 7 1)) 95 2 ((px_up (px_up s 95 0 (s 7 0)) 95 1 ((px_up s 95 0 (s 7 0)) 7 1)) 7 2)) 95 3 ((px_up (px_up (px_up s 95 0 (s 7 0)) 95 1 ((px_up s 95 0 (s 7 0)) 7 1)) 95 2 ((px_up (px_up s 95 0 (s 7 0)) 95 1 ((px_up s 95 0 (s 7 0)) 7 1)) 7 2)) 7 3)) 7 4)) 7 5)) 7 6) = 0 ∨ ((px_up (px_up (px_up (px_up (px_up (px_up s 95 0 (s 7 0)) 95 1 ((px_up s 95 0 (s 7 0)) 7 1)) 95 2 ((px_up (px_up s 95 0 (s 7 0)) 95 1 ((px_up s 95 0 (s 7 0)) 7 1)) 7 2)) 95 3 ((px_up (px_up (px_up s 95 0 (s 7 0)) 95 1 ((px_up s 95 0 (s 7 0)) 7 1)) 95 2 ((px_up (px_up s 95 0 (s 7 0)) 95 1 ((px_up s 95 0 (s 7 0)) 7 1)) 7 2)) 7 3)) 95 4 ((px_up (px_up (px_up (px_up s 95 0 (s 7 0)) 95 1 ((px_up s 95 0 (s 7 0)) 7 1)) 95 2 ((px_up (px_up s 95 0 (s 7 0)) 95 1 ((px_up s 95 0 (s 7 0)) 7 1)) 7 2)) 95 3 ((px_up (px_up (px_up s 95 0 (s 7 0)) 95 1 ((px_up s 95 0 (s 7 0)) 7 1)) 95 2 ((px_up (px_up s 95 0 (s 7 0)) 95 1 ((px_up s 95 0 (s 7 0)) 7 1)) 7 2)) 7 3)) 7 4)) 95 5 ((px_up (px_up (px_up (px_up (px_up s 95 0 (s 7 0)) 95 1 ((px_up s 95 0 (s 7 0)) 7 1)) 95 2 ((px_up (px_up s 95 0 (s 7 0)) 95 1 ((px_up s 95 0 (s 7 0)) 7 1)) 7 2)) 95 3 ((px_up (px_up (px_up s 95 0 (s 7 0)) 95 1 ((px_up s 95 0 (s 7 0)) 7 1)) 95 2 ((px_up (px_up s 95 0 (s 7 0)) 95 1 ((px_up s 95 0 (s 7 0)) 7 1)) 7 2)) 7 3)) 95 4 ((px_up (px_up (px_up (px_up s 95 0 (s 7 0)) 95 1 ((px_up s 95 0 (s 7 0)) 7 1)) 95 2 ((px_up (px_up s 95 0 (s 7 0)) 95 1 ((px_up s 95 0 (s 7 0)) 7 1)) 7 2)) 95 3 ((px_up (px_up (px_up s 95 0 (s 7 0)) 95 1 ((px_up s 95 0 (s 7 0)) 7 1)) 95 2 ((px_up (px_up s 95 0 (s 7 0)) 95 1 ((px_up s 95 0 (s 7 0)) 7 1)) 7 2)) 7 3)) 7 4)) 7 5)) 7 6) = 1 then some (px_cp (px_cp (px_cp (px_cp (px_up (px_up (px_up (px_up (px_up (px_up (px_up (px_up s 95 0 (s 7 0)) 95 1 ((px_up s 95 0 (s 7 0)) 7 1)) 95 2 ((px_up (px_up s 95 0 (s 7 0)) 95 1 ((px_up s 95 0 (s 7 0)) 7 1)) 7 2)) 95 3 ((px_up (px_up (px_up s 95 0 (s 7 0)) 95 1 ((px_up s 95 0 (s 7 0)) 7 1)) 95 2 ((px_up (px_up s 95 0 (s 7 0)) 95 1 ((px_up s 95 0 (s 7 0)) 7 1)) 7 2)) 7 3)) 95 4 ((px_up (px_up (px_up (px_up s 95 0 (s 7 0)) 95 1 ((px_up s 95 0 (s 7 0)) 7 1)) 95 2 ((px_up (px_up s 95 0 (s 7 0)) 95 1 ((px_up s 95 0 (s 7 0)) 7 1)) 7 2)) 95 3 ((px_up (px_up (px_up s 95 0 (s 7 0)) 95 1 ((px_up s 95 0 (s 7 0)) 7 1)) 95 2 ((px_up (px_up s 95 0 (s 7 0)) 95 1 ((px_up s 95 0 (s 7 0)) 7 1)) 7 2)) 7 3)) 7 4)) 95 5 ((px_up (px_up (px_up (px_up (px_up s 95 0 (s 7 0)) 95 1 ((px_up s 95 0 (s 7 0)) 7 1)) 95 2 ((px_up (px_up s 95 0 (s 7 0)) 95 1 ((px_up s 95 0 (s 7 0)) 7 1)) 7 2)) 95 3 ((px_up (px_up (px_up s 95 0 (s 7 0)) 95 1 ((px_up s 95 0 (s 7 0)) 7 1)) 95 2 ((px_up (px_up s 95 0 (s 7 0)) 95 1 ((px_up s 95 0 (s 7 0)) 7 1)) 7 2)) 7 3)) 95 4 ((px_up (px_up (px_up (px_up s 95 0 (s 7 0)) 95 1 ((px_up s 95 0 (s 7 0)) 7 1)) 95 2 ((px_up (px_up s 95 0 (s 7 0)) 95 1 ((px_up s 95 0 (s 7 0)) 7 1)) 7 2)) 95 3 ((px_up (px_up (px_up s 95 0 (s 7 0)) 95 1 ((px_up s 95 0 (s 7 0)) 7 1)) 95 2 ((px_up (px_up s 95 0 (s 7 0)) 95 1 ((px_up s 95 0 (s 7 0)) 7 1)) 7 2)) 7 3)) 7 4)) 7 5)) 95 6 ((px_up (px_up (px_up (px_up (px_up (px_up s 95 0 (s 7 0)) 95 1 ((px_up s 95 0 (s 7 0)) 7 1)) 95 2 ((px_up (px_up s 95 0 (s 7 0)) 95 1 ((px_up s 95 0 (s 7 0)) 7 1)) 7 2)) 95 3 ((px_up (px_up (px_up s 95 0 (s 7 0)) 95 1 ((px_up s 95 0 (s 7 0)) 7 1)) 95 2 ((px_up (px_up s 95 0 (s 7 0)) 95 1 ((px_up s 95 0 (s 7 0)) 7 1)) 7 2)) 7 3)) 95 4 ((px_up (px_up (px_up (px_up s 95 0 (s 7 0)) 95 1 ((px_up s 95 0 (s 7 0)) 7 1)) 95 2 ((px_up (px_up s 95 0 (s 7 0)) 95 1 ((px_up s 95 0 (s 7 0)) 7 1)) 7 2)) 95 3 ((px_up (px_up (px_up s 95 0 (s 7 0)) 95 1 ((px_up s 95 0 (s 7 0)) 7 1)) 95 2 ((px_up (px_up s 95 0 (s 7 0)) 95 1 ((px_up s 95 0 (s 7 0)) 7 1)) 7 2)) 7 3)) 7 4)) 95 5 ((px_up (px_up (px_up (px_up (px_up s 95 0 (s 7 0)) 95 1 ((px_up s 95 0 (s 7 0)) 7 1)) 95 2 ((px_up (px_up s 95 0 (s 7 0)) 95 1 ((px_up s 95 0 (s 7 0)) 7 1)) 7 2)) 95 3 ((px_up (px_up (px_up s 95 0 (s 7 0)) 95 1 ((px_up s 95 0 (s 7 0)) 7 1)) 95 2 ((px_up (px_up s 95 0 (s 7 0)) 95 1 ((px_up s 95 0 (s 7 0)) 7 1)) 7 2)) 7 3)) 95 4 ((px_up (px_up (px_up (px_up s 95 0 (s 7 0)) 95 1 ((px_up s 95 0 (s 7 0)) 7 1)) 95 2 ((px_up (px_up s 95 0 (s 7 0)) 95 1 ((px_up s 95 0 (s 7 0)) 7 1)) 7 2)) 95 3 ((px_up (px_up (px_up s 95 0 (s 7 0)) 95 1 ((px_up s 95 0 (s 7 0)) 7 1)) 95 2 ((px_up (px_up s 95 0 (s 7 0)) 95 1 ((px_up s 95 0 (s 7 0)) 7 1)) 7 2)) 7 3)) 7 4)) 7 5)) 7 6)) 95 7 ((px_up (px_up (px_up (px_up (px_up (px_up (px_up s 95 0 (s 7 0)) 95 1 ((px_up s 95 0 (s 7 0)) 7 1)) 95 2 ((px_up (px_up s 95 0 (s 7 0)) 95 1 ((px_up s 95 0 (s 7 0)) 7 1)) 7 2)) 95 3 ((px_up (px_up (px_up s 95 0 (s 7 0)) 95 1 ((px_up s 95 0 (s 7 0)) 7 1)) 95 2 ((px_up (px_up s 95 0 (s 7 0)) 95 1 ((px_up s 95 0 (s 7 0)) 7 1)) 7 2)) 7 3)) 95 4 ((px_up (px_up (px_up (px_up s 95 0 (s 7 0)) 95 1 ((px_up s 95 0 (s 7 0)) 7 1)) 95 2 ((px_up (px_up s 95 0 (s 7 0)) 95 1 ((px_up s 95 0 (s 7 0)) 7 1)) 7 2)) 95 3 ((px_up (px_up (px_up s 95 0 (s 7 0)) 95 1 ((px_up s 95 0 (s 7 0)) 7 1)) 95 2 ((px_up (px_up s 95 0 (s 7 0)) 95 1 ((px_up s 95 0 (s 7 0)) 7 1)) 7 2)) 7 3)) 7 4)) 95 5 ((px_up (px_up (px_up (px_up (px_up s 95 0 (s 7 0)) 95 1 ((px_up s 95 0 (s 7 0)) 7 1)) 95 2 ((px_up (px_up s 95 0 (s 7 0)) 95 1 ((px_up s 95 0 (s 7 0)) 7 1)) 7 2)) 95 3 ((px_up (px_up (px_up s 95 0 (s 7 0)) 95 1 ((px_up s 95 0 (s 7 0)) 7 1)) 95 2 ((px_up (px_up s 95 0 (s 7 0)) 95 1 ((px_up s 95 0 (s 7 0)) 7 1)) 7 2)) 7 3)) 95 4 ((px_up (px_up (px_up (px_up s 95 0 (s 7 0)) 95 1 ((px_up s 95 0 (s 7 0)) 7 1)) 95 2 ((px_up (px_up s 95 0 (s 7 0)) 95 1 ((px_up s 95 0 (s 7 0)) 7 1)) 7 2)) 95 3 ((px_up (px_up (px_up s 95 0 (s 7 0)) 95 1 ((px_up s 95 0 (s 7 0)) 7 1)) 95 2 ((px_up (px_up s 95 0 (s 7 0)) 95 1 ((px_up s 95 0 (s 7 0)) 7 1)) 7 2)) 7 3)) 7 4)) 7 5)) 95 6 ((px_up (px_up (px_up (px_up (px_up (px_up s 95 0 (s 7 0)) 95 1 ((px_up s 95 0 (s 7 0)) 7 1)) 95 2 ((px_up (px_up s 95 0 (s 7 0)) 95 1 ((px_up s 95 0 (s 7 0)) 7 1)) 7 2)) 95 3 ((px_up (px_up (px_up s 95 0 (s 7 0)) 95 1 ((px_up s 95 0 (s 7 0)) 7 1)) 95 2 ((px_up (px_up s 95 0 (s 7 0)) 95 1 ((px_up s 95 0 (s 7 0)) 7 1)) 7 2)) 7 3)) 95 4 ((px_up (px_up (px_up (px_up s 95 0 (s 7 0)) 95 1 ((px_up s 95 0 (s 7 0)) 7 1)) 95 2 ((px_up (px_up s 95 0 (s 7 0)) 95 1 ((px_up s 95 0 (s 7 0)) 7 1)) 7 2)) 95 3 ((px_up (px_up (px_up s 95 0 (s 7 0)) 95 1 ((px_up s 95 0 (s 7 0)) 7 1)) 95 2 ((px_up (px_up s 95 0 (s 7 0)) 95 1 ((px_up s 95 0 (s 7 0)) 7 1)) 7 2)) 7 3)) 7 4)) 95 5 ((px_up (px_up (px_up (px_up (px_up s 95 0 (s 7 0)) 95 1 ((px_up s 95 0 (s 7 0)) 7 1)) 95 2 ((px_up (px_up s 95 0 (s 7 0)) 95 1 ((px_up s 95 0 (s 7 0)) 7 1)) 7 2)) 95 3 ((px_up (px_up (px_up s 95 0 (s 7 0)) 95 1 ((px_up s 95 0 (s 7 0)) 7 1)) 95 2 ((px_up (px_up s 95 0 (s 7 0)) 95 1 ((px_up s 95 0 (s 7 0)) 7 1)) 7 2)) 7 3)) 95 4 ((px_up (px_up (px_up (px_up s 95 0 (s 7 0)) 95 1 ((px_up s 95 0 (s 7 0)) 7 1)) 95 2 ((px_up (px_up s 95 0 (s 7 0)) 95 1 ((px_up s 95 0 (s 7 0)) 7 1)) 7 2)) 95 3 ((px_up (px_up (px_up s 95 0 (s 7 0)) 95 1 ((px_up s 95 0 (s 7 0)) 7 1)) 95 2 ((px_up (px_up s 95 0 (s 7 0)) 95 1 ((px_up s 95 0 (s 7 0)) 7 1)) 7 2)) 7 3)) 7 4)) 7 5)) 7 6)) 7 7)) 8 96 0 0 8) 9 97 0 0 8) 10 98 0 0 8) 11 99 0 0 8) else none
set_option maxHeartbeats 4000000 in
set_option maxRecDepth 100000 in
theorem c_Fate_become_6 {sc : List Int} {d : Nat} {s : px_Z} {out : px_Z} (h : f_Fate_become_6 s  = some out) : px_D sc (d + 0) 1 0 [(0, .inr (.inr 95)), (1, .inr (.inr 7))] [] (px_G1, s) (px_Qv out) := by
  unfold f_Fate_become_6 at h
  refine px_D_st 27 (ip1 := 27) (ls1 := [(0, .inr (.inr 95)), (1, .inr (.inr 7))]) (st1 := [.inl ((px_up (px_up (px_up (px_up (px_up (px_up s 95 0 (s 7 0)) 95 1 ((px_up s 95 0 (s 7 0)) 7 1)) 95 2 ((px_up (px_up s 95 0 (s 7 0)) 95 1 ((px_up s 95 0 (s 7 0)) 7 1)) 7 2)) 95 3 ((px_up (px_up (px_up s 95 0 (s 7 0)) 95 1 ((px_up s 95 0 (s 7 0)) 7 1)) 95 2 ((px_up (px_up s 95 0 (s 7 0)) 95 1 ((px_up s 95 0 (s 7 0)) 7 1)) 7 2)) 7 3)) 95 4 ((px_up (px_up (px_up (px_up s 95 0 (s 7 0)) 95 1 ((px_up s 95 0 (s 7 0)) 7 1)) 95 2 ((px_up (px_up s 95 0 (s 7 0)) 95 1 ((px_up s 95 0 (s 7 0)) 7 1)) 7 2)) 95 3 ((px_up (px_up (px_up s 95 0 (s 7 0)) 95 1 ((px_up s 95 0 (s 7 0)) 7 1)) 95 2 ((px_up (px_up s 95 0 (s 7 0)) 95 1 ((px_up s 95 0 (s 7 0)) 7 1)) 7 2)) 7 3)) 7 4)) 95 5 ((px_up (px_up (px_up (px_up (px_up s 95 0 (s 7 0)) 95 1 ((px_up s 95 0 (s 7 0)) 7 1)) 95 2 ((px_up (px_up s 95 0 (s 7 0)) 95 1 ((px_up s 95 0 (s 7 0)) 7 1)) 7 2)) 95 3 ((px_up (px_up (px_up s 95 0 (s 7 0)) 95 1 ((px_up s 95 0 (s 7 0)) 7 1)) 95 2 ((px_up (px_up s 95 0 (s 7 0)) 95 1 ((px_up s 95 0 (s 7 0)) 7 1)) 7 2)) 7 3)) 95 4 ((px_up (px_up (px_up (px_up s 95 0 (s 7 0)) 95 1 ((px_up s 95 0 (s 7 0)) 7 1)) 95 2 ((px_up (px_up s 95 0 (s 7 0)) 95 1 ((px_up s 95 0 (s 7 0)) 7 1)) 7 2)) 95 3 ((px_up (px_up (px_up s 95 0 (s 7 0)) 95 1 ((px_up s 95 0 (s 7 0)) 7 1)) 95 2 ((px_up (px_up s 95 0 (s 7 0)) 95 1 ((px_up s 95 0 (s 7 0)) 7 1)) 7 2)) 7 3)) 7 4)) 7 5)) 7 6), .inr (.inr 95)]) (h1 := (px_G1, px_up (px_up (px_up (px_up (px_up (px_up s 95 0 (s 7 0)) 95 1 ((px_up s 95 0 (s 7 0)) 7 1)) 95 2 ((px_up (px_up s 95 0 (s 7 0)) 95 1 ((px_up s 95 0 (s 7 0)) 7 1)) 7 2)) 95 3 ((px_up (px_up (px_up s 95 0 (s 7 0)) 95 1 ((px_up s 95 0 (s 7 0)) 7 1)) 95 2 ((px_up (px_up s 95 0 (s 7 0)) 95 1 ((px_up s 95 0 (s 7 0)) 7 1)) 7 2)) 7 3)) 95 4 ((px_up (px_up (px_up (px_up s 95 0 (s 7 0)) 95 1 ((px_up s 95 0 (s 7 0)) 7 1)) 95 2 ((px_up (px_up s 95 0 (s 7 0)) 95 1 ((px_up s 95 0 (s 7 0)) 7 1)) 7 2)) 95 3 ((px_up (px_up (px_up s 95 0 (s 7 0)) 95 1 ((px_up s 95 0 (s 7 0)) 7 1)) 95 2 ((px_up (px_up s 95 0 (s 7 0)) 95 1 ((px_up s 95 0 (s 7 0)) 7 1)) 7 2)) 7 3)) 7 4)) 95 5 ((px_up (px_up (px_up (px_up (px_up s 95 0 (s 7 0)) 95 1 ((px_up s 95 0 (s 7 0)) 7 1)) 95 2 ((px_up (px_up s 95 0 (s 7 0)) 95 1 ((px_up s 95 0 (s 7 0)) 7 1)) 7 2)) 95 3 ((px_up (px_up (px_up s 95 0 (s 7 0)) 95 1 ((px_up s 95 0 (s 7 0)) 7 1)) 95 2 ((px_up (px_up s 95 0 (s 7 0)) 95 1 ((px_up s 95 0 (s 7 0)) 7 1)) 7 2)) 7 3)) 95 4 ((px_up (px_up (px_up (px_up s 95 0 (s 7 0)) 95 1 ((px_up s 95 0 (s 7 0)) 7 1)) 95 2 ((px_up (px_up s 95 0 (s 7 0)) 95 1 ((px_up s 95 0 (s 7 0)) 7 1)) 7 2)) 95 3 ((px_up (px_up (px_up s 95 0 (s 7 0)) 95 1 ((px_up s 95 0 (s 7 0)) 7 1)) 95 2 ((px_up (px_up s 95 0 (s 7 0)) 95 1 ((px_up s 95 0 (s 7 0)) 7 1)) 7 2)) 7 3)) 7 4)) 7 5))) rfl ?_
  by_cases hc1 : ((px_up (px_up (px_up (px_up (px_up (px_up s 95 0 (s 7 0)) 95 1 ((px_up s 95 0 (s 7 0)) 7 1)) 95 2 ((px_up (px_up s 95 0 (s 7 0)) 95 1 ((px_up s 95 0 (s 7 0)) 7 1)) 7 2)) 95 3 ((px_up (px_up (px_up s 95 0 (s 7 0)) 95 1 ((px_up s 95 0 (s 7 0)) 7 1)) 95 2 ((px_up (px_up s 95 0 (s 7 0)) 95 1 ((px_up s 95 0 (s 7 0)) 7 1)) 7 2)) 7 3)) 95 4 ((px_up (px_up (px_up (px_up s 95 0 (s 7 0)) 95 1 ((px_up s 95 0 (s 7 0)) 7 1)) 95 2 ((px_up (px_up s 95 0 (s 7 0)) 95 1 ((px_up s 95 0 (s 7 0)) 7 1)) 7 2)) 95 3 ((px_up (px_up (px_up s 95 0 (s 7 0)) 95 1 ((px_up s 95 0 (s 7 0)) 7 1)) 95 2 ((px_up (px_up s 95 0 (s 7 0)) 95 1 ((px_up s 95 0 (s 7 0)) 7 1)) 7 2)) 7 3)) 7 4)) 95 5 ((px_up (px_up (px_up (px_up (px_up s 95 0 (s 7 0)) 95 1 ((px_up s 95 0 (s 7 0)) 7 1)) 95 2 ((px_up (px_up s 95 0 (s 7 0)) 95 1 ((px_up s 95 0 (s 7 0)) 7 1)) 7 2)) 95 3 ((px_up (px_up (px_up s 95 0 (s 7 0)) 95 1 ((px_up s 95 0 (s 7 0)) 7 1)) 95 2 ((px_up (px_up s 95 0 (s 7 0)) 95 1 ((px_up s 95 0 (s 7 0)) 7 1)) 7 2)) 7 3)) 95 4 ((px_up (px_up (px_up (px_up s 95 0 (s 7 0)) 95 1 ((px_up s 95 0 (s 7 0)) 7 1)) 95 2 ((px_up (px_up s 95 0 (s 7 0)) 95 1 ((px_up s 95 0 (s 7 0)) 7 1)) 7 2)) 95 3 ((px_up (px_up (px_up s 95 0 (s 7 0)) 95 1 ((px_up s 95 0 (s 7 0)) 7 1)) 95 2 ((px_up (px_up s 95 0 (s 7 0)) 95 1 ((px_up s 95 0 (s 7 0)) 7 1)) 7 2)) 7 3)) 7 4)) 7 5)) 7 6) = 0 ∨ ((px_up (px_up (px_up (px_up (px_up (px_up s 95 0 (s 7 0)) 95 1 ((px_up s 95 0 (s 7 0)) 7 1)) 95 2 ((px_up (px_up s 95 0 (s 7 0)) 95 1 ((px_up s 95 0 (s 7 0)) 7 1)) 7 2)) 95 3 ((px_up (px_up (px_up s 95 0 (s 7 0)) 95 1 ((px_up s 95 0 (s 7 0)) 7 1)) 95 2 ((px_up (px_up s 95 0 (s 7 0)) 95 1 ((px_up s 95 0 (s 7 0)) 7 1)) 7 2)) 7 3)) 95 4 ((px_up (px_up (px_up (px_up s 95 0 (s 7 0)) 95 1 ((px_up s 95 0 (s 7 0)) 7 1)) 95 2 ((px_up (px_up s 95 0 (s 7 0)) 95 1 ((px_up s 95 0 (s 7 0)) 7 1)) 7 2)) 95 3 ((px_up (px_up (px_up s 95 0 (s 7 0)) 95 1 ((px_up s 95 0 (s 7 0)) 7 1)) 95 2 ((px_up (px_up s 95 0 (s 7 0)) 95 1 ((px_up s 95 0 (s 7 0)) 7 1)) 7 2)) 7 3)) 7 4)) 95 5 ((px_up (px_up (px_up (px_up (px_up s 95 0 (s 7 0)) 95 1 ((px_up s 95 0 (s 7 0)) 7 1)) 95 2 ((px_up (px_up s 95 0 (s 7 0)) 95 1 ((px_up s 95 0 (s 7 0)) 7 1)) 7 2)) 95 3 ((px_up (px_up (px_up s 95 0 (s 7 0)) 95 1 ((px_up s 95 0 (s 7 0)) 7 1)) 95 2 ((px_up (px_up s 95 0 (s 7 0)) 95 1 ((px_up s 95 0 (s 7 0)) 7 1)) 7 2)) 7 3)) 95 4 ((px_up (px_up (px_up (px_up s 95 0 (s 7 0)) 95 1 ((px_up s 95 0 (s 7 0)) 7 1)) 95 2 ((px_up (px_up s 95 0 (s 7 0)) 95 1 ((px_up s 95 0 (s 7 0)) 7 1)) 7 2)) 95 3 ((px_up (px_up (px_up s 95 0 (s 7 0)) 95 1 ((px_up s 95 0 (s 7 0)) 7 1)) 95 2 ((px_up (px_up s 95 0 (s 7 0)) 95 1 ((px_up s 95 0 (s 7 0)) 7 1)) 7 2)) 7 3)) 7 4)) 7 5)) 7 6) = 1
  case neg => rw [if_neg hc1] at h; cases h
  rw [if_pos hc1] at h
  refine px_D_putz (k := 90) rfl rfl rfl rfl hc1 ?_
  refine px_D_st 36 (ip1 := 64) (ls1 := [(0, .inr (.inr 95)), (1, .inr (.inr 7))]) (st1 := []) (h1 := (px_G1, px_cp (px_cp (px_cp (px_cp (px_up (px_up (px_up (px_up (px_up (px_up (px_up (px_up s 95 0 (s 7 0)) 95 1 ((px_up s 95 0 (s 7 0)) 7 1)) 95 2 ((px_up (px_up s 95 0 (s 7 0)) 95 1 ((px_up s 95 0 (s 7 0)) 7 1)) 7 2)) 95 3 ((px_up (px_up (px_up s 95 0 (s 7 0)) 95 1 ((px_up s 95 0 (s 7 0)) 7 1)) 95 2 ((px_up (px_up s 95 0 (s 7 0)) 95 1 ((px_up s 95 0 (s 7 0)) 7 1)) 7 2)) 7 3)) 95 4 ((px_up (px_up (px_up (px_up s 95 0 (s 7 0)) 95 1 ((px_up s 95 0 (s 7 0)) 7 1)) 95 2 ((px_up (px_up s 95 0 (s 7 0)) 95 1 ((px_up s 95 0 (s 7 0)) 7 1)) 7 2)) 95 3 ((px_up (px_up (px_up s 95 0 (s 7 0)) 95 1 ((px_up s 95 0 (s 7 0)) 7 1)) 95 2 ((px_up (px_up s 95 0 (s 7 0)) 95 1 ((px_up s 95 0 (s 7 0)) 7 1)) 7 2)) 7 3)) 7 4)) 95 5 ((px_up (px_up (px_up (px_up (px_up s 95 0 (s 7 0)) 95 1 ((px_up s 95 0 (s 7 0)) 7 1)) 95 2 ((px_up (px_up s 95 0 (s 7 0)) 95 1 ((px_up s 95 0 (s 7 0)) 7 1)) 7 2)) 95 3 ((px_up (px_up (px_up s 95 0 (s 7 0)) 95 1 ((px_up s 95 0 (s 7 0)) 7 1)) 95 2 ((px_up (px_up s 95 0 (s 7 0)) 95 1 ((px_up s 95 0 (s 7 0)) 7 1)) 7 2)) 7 3)) 95 4 ((px_up (px_up (px_up (px_up s 95 0 (s 7 0)) 95 1 ((px_up s 95 0 (s 7 0)) 7 1)) 95 2 ((px_up (px_up s 95 0 (s 7 0)) 95 1 ((px_up s 95 0 (s 7 0)) 7 1)) 7 2)) 95 3 ((px_up (px_up (px_up s 95 0 (s 7 0)) 95 1 ((px_up s 95 0 (s 7 0)) 7 1)) 95 2 ((px_up (px_up s 95 0 (s 7 0)) 95 1 ((px_up s 95 0 (s 7 0)) 7 1)) 7 2)) 7 3)) 7 4)) 7 5)) 95 6 ((px_up (px_up (px_up (px_up (px_up (px_up s 95 0 (s 7 0)) 95 1 ((px_up s 95 0 (s 7 0)) 7 1)) 95 2 ((px_up (px_up s 95 0 (s 7 0)) 95 1 ((px_up s 95 0 (s 7 0)) 7 1)) 7 2)) 95 3 ((px_up (px_up (px_up s 95 0 (s 7 0)) 95 1 ((px_up s 95 0 (s 7 0)) 7 1)) 95 2 ((px_up (px_up s 95 0 (s 7 0)) 95 1 ((px_up s 95 0 (s 7 0)) 7 1)) 7 2)) 7 3)) 95 4 ((px_up (px_up (px_up (px_up s 95 0 (s 7 0)) 95 1 ((px_up s 95 0 (s 7 0)) 7 1)) 95 2 ((px_up (px_up s 95 0 (s 7 0)) 95 1 ((px_up s 95 0 (s 7 0)) 7 1)) 7 2)) 95 3 ((px_up (px_up (px_up s 95 0 (s 7 0)) 95 1 ((px_up s 95 0 (s 7 0)) 7 1)) 95 2 ((px_up (px_up s 95 0 (s 7 0)) 95 1 ((px_up s 95 0 (s 7 0)) 7 1)) 7 2)) 7 3)) 7 4)) 95 5 ((px_up (px_up (px_up (px_up (px_up s 95 0 (s 7 0)) 95 1 ((px_up s 95 0 (s 7 0)) 7 1)) 95 2 ((px_up (px_up s 95 0 (s 7 0)) 95 1 ((px_up s 95 0 (s 7 0)) 7 1)) 7 2)) 95 3 ((px_up (px_up (px_up s 95 0 (s 7 0)) 95 1 ((px_up s 95 0 (s 7 0)) 7 1)) 95 2 ((px_up (px_up s 95 0 (s 7 0)) 95 1 ((px_up s 95 0 (s 7 0)) 7 1)) 7 2)) 7 3)) 95 4 ((px_up (px_up (px_up (px_up s 95 0 (s 7 0)) 95 1 ((px_up s 95 0 (s 7 0)) 7 1)) 95 2 ((px_up (px_up s 95 0 (s 7 0)) 95 1 ((px_up s 95 0 (s 7 0)) 7 1)) 7 2)) 95 3 ((px_up (px_up (px_up s 95 0 (s 7 0)) 95 1 ((px_up s 95 0 (s 7 0)) 7 1)) 95 2 ((px_up (px_up s 95 0 (s 7 0)) 95 1 ((px_up s 95 0 (s 7 0)) 7 1)) 7 2)) 7 3)) 7 4)) 7 5)) 7 6)) 95 7 ((px_up (px_up (px_up (px_up (px_up (px_up (px_up s 95 0 (s 7 0)) 95 1 ((px_up s 95 0 (s 7 0)) 7 1)) 95 2 ((px_up (px_up s 95 0 (s 7 0)) 95 1 ((px_up s 95 0 (s 7 0)) 7 1)) 7 2)) 95 3 ((px_up (px_up (px_up s 95 0 (s 7 0)) 95 1 ((px_up s 95 0 (s 7 0)) 7 1)) 95 2 ((px_up (px_up s 95 0 (s 7 0)) 95 1 ((px_up s 95 0 (s 7 0)) 7 1)) 7 2)) 7 3)) 95 4 ((px_up (px_up (px_up (px_up s 95 0 (s 7 0)) 95 1 ((px_up s 95 0 (s 7 0)) 7 1)) 95 2 ((px_up (px_up s 95 0 (s 7 0)) 95 1 ((px_up s 95 0 (s 7 0)) 7 1)) 7 2)) 95 3 ((px_up (px_up (px_up s 95 0 (s 7 0)) 95 1 ((px_up s 95 0 (s 7 0)) 7 1)) 95 2 ((px_up (px_up s 95 0 (s 7 0)) 95 1 ((px_up s 95 0 (s 7 0)) 7 1)) 7 2)) 7 3)) 7 4)) 95 5 ((px_up (px_up (px_up (px_up (px_up s 95 0 (s 7 0)) 95 1 ((px_up s 95 0 (s 7 0)) 7 1)) 95 2 ((px_up (px_up s 95 0 (s 7 0)) 95 1 ((px_up s 95 0 (s 7 0)) 7 1)) 7 2)) 95 3 ((px_up (px_up (px_up s 95 0 (s 7 0)) 95 1 ((px_up s 95 0 (s 7 0)) 7 1)) 95 2 ((px_up (px_up s 95 0 (s 7 0)) 95 1 ((px_up s 95 0 (s 7 0)) 7 1)) 7 2)) 7 3)) 95 4 ((px_up (px_up (px_up (px_up s 95 0 (s 7 0)) 95 1 ((px_up s 95 0 (s 7 0)) 7 1)) 95 2 ((px_up (px_up s 95 0 (s 7 0)) 95 1 ((px_up s 95 0 (s 7 0)) 7 1)) 7 2)) 95 3 ((px_up (px_up (px_up s 95 0 (s 7 0)) 95 1 ((px_up s 95 0 (s 7 0)) 7 1)) 95 2 ((px_up (px_up s 95 0 (s 7 0)) 95 1 ((px_up s 95 0 (s 7 0)) 7 1)) 7 2)) 7 3)) 7 4)) 7 5)) 95 6 ((px_up (px_up (px_up (px_up (px_up (px_up s 95 0 (s 7 0)) 95 1 ((px_up s 95 0 (s 7 0)) 7 1)) 95 2 ((px_up (px_up s 95 0 (s 7 0)) 95 1 ((px_up s 95 0 (s 7 0)) 7 1)) 7 2)) 95 3 ((px_up (px_up (px_up s 95 0 (s 7 0)) 95 1 ((px_up s 95 0 (s 7 0)) 7 1)) 95 2 ((px_up (px_up s 95 0 (s 7 0)) 95 1 ((px_up s 95 0 (s 7 0)) 7 1)) 7 2)) 7 3)) 95 4 ((px_up (px_up (px_up (px_up s 95 0 (s 7 0)) 95 1 ((px_up s 95 0 (s 7 0)) 7 1)) 95 2 ((px_up (px_up s 95 0 (s 7 0)) 95 1 ((px_up s 95 0 (s 7 0)) 7 1)) 7 2)) 95 3 ((px_up (px_up (px_up s 95 0 (s 7 0)) 95 1 ((px_up s 95 0 (s 7 0)) 7 1)) 95 2 ((px_up (px_up s 95 0 (s 7 0)) 95 1 ((px_up s 95 0 (s 7 0)) 7 1)) 7 2)) 7 3)) 7 4)) 95 5 ((px_up (px_up (px_up (px_up (px_up s 95 0 (s 7 0)) 95 1 ((px_up s 95 0 (s 7 0)) 7 1)) 95 2 ((px_up (px_up s 95 0 (s 7 0)) 95 1 ((px_up s 95 0 (s 7 0)) 7 1)) 7 2)) 95 3 ((px_up (px_up (px_up s 95 0 (s 7 0)) 95 1 ((px_up s 95 0 (s 7 0)) 7 1)) 95 2 ((px_up (px_up s 95 0 (s 7 0)) 95 1 ((px_up s 95 0 (s 7 0)) 7 1)) 7 2)) 7 3)) 95 4 ((px_up (px_up (px_up (px_up s 95 0 (s 7 0)) 95 1 ((px_up s 95 0 (s 7 0)) 7 1)) 95 2 ((px_up (px_up s 95 0 (s 7 0)) 95 1 ((px_up s 95 0 (s 7 0)) 7 1)) 7 2)) 95 3 ((px_up (px_up (px_up s 95 0 (s 7 0)) 95 1 ((px_up s 95 0 (s 7 0)) 7 1)) 95 2 ((px_up (px_up s 95 0 (s 7 0)) 95 1 ((px_up s 95 0 (s 7 0)) 7 1)) 7 2)) 7 3)) 7 4)) 7 5)) 7 6)) 7 7)) 8 96 0 0 8) 9 97 0 0 8) 10 98 0 0 8) 11 99 0 0 8)) rfl ?_
  cases h
  exact px_D_vret rfl ⟨rfl, rfl⟩

def f_Trail_remember (s : px_Z) : Option (px_Z) := if ((px_up s 88 1 ((px_wr ((s 88 1) + 1)).tmod 6)) 88 1) = 0 then (f_Fate_become (px_up s 88 1 ((px_wr ((s 88 1) + 1)).tmod 6)) ).bind (fun q2 => some (px_up q2 88 2 (f_Math_min q2 6 (px_wr ((q2 88 2) + 1))))) else (if ((px_up s 88 1 ((px_wr ((s 88 1) + 1)).tmod 6)) 88 1) = 1 then (f_Fate_become_6 (px_up s 88 1 ((px_wr ((s 88 1) + 1)).tmod 6)) ).bind (fun q4 => some (px_up q4 88 2 (f_Math_min q4 6 (px_wr ((q4 88 2) + 1))))) else (if ((px_up s 88 1 ((px_wr ((s 88 1) + 1)).tmod 6)) 88 1) = 2 then (f_Fate_become_5 (px_up s 88 1 ((px_wr ((s 88 1) + 1)).tmod 6)) ).bind (fun q6 => some (px_up q6 88 2 (f_Math_min q6 6 (px_wr ((q6 88 2) + 1))))) else (if ((px_up s 88 1 ((px_wr ((s 88 1) + 1)).tmod 6)) 88 1) = 3 then (f_Fate_become_3 (px_up s 88 1 ((px_wr ((s 88 1) + 1)).tmod 6)) ).bind (fun q8 => some (px_up q8 88 2 (f_Math_min q8 6 (px_wr ((q8 88 2) + 1))))) else (if ((px_up s 88 1 ((px_wr ((s 88 1) + 1)).tmod 6)) 88 1) = 4 then (f_Fate_become_2 (px_up s 88 1 ((px_wr ((s 88 1) + 1)).tmod 6)) ).bind (fun q10 => some (px_up q10 88 2 (f_Math_min q10 6 (px_wr ((q10 88 2) + 1))))) else (if ((px_up s 88 1 ((px_wr ((s 88 1) + 1)).tmod 6)) 88 1) = 5 then (f_Fate_become_4 (px_up s 88 1 ((px_wr ((s 88 1) + 1)).tmod 6)) ).bind (fun q12 => some (px_up q12 88 2 (f_Math_min q12 6 (px_wr ((q12 88 2) + 1))))) else none)))))
set_option maxHeartbeats 4000000 in
set_option maxRecDepth 100000 in
theorem c_Trail_remember {sc : List Int} {d : Nat} {s : px_Z} {out : px_Z} (h : f_Trail_remember s  = some out) : px_D sc (d + 1) 78 0 [(0, .inr (.inr 88)), (1, .inr (.inr 7))] [] (px_G1, s) (px_Qv out) := by
  unfold f_Trail_remember at h
  refine px_D_st 12 (ip1 := 12) (ls1 := [(0, .inr (.inr 88)), (1, .inr (.inr 7))]) (st1 := [.inl ((px_up s 88 1 ((px_wr ((s 88 1) + 1)).tmod 6)) 88 1), .inr (.inr 89)]) (h1 := (px_G1, px_up s 88 1 ((px_wr ((s 88 1) + 1)).tmod 6))) rfl ?_
  by_cases hc1 : ((px_up s 88 1 ((px_wr ((s 88 1) + 1)).tmod 6)) 88 1) = 0
  · rw [if_pos hc1] at h
    refine px_D_aald (k := 84) (n := 6) (c := 0) (r := 90) rfl rfl hc1 (by decide) rfl ?_
    refine px_D_st 1 (ip1 := 14) (ls1 := [(0, .inr (.inr 88)), (1, .inr (.inr 7))]) (st1 := [.inr (.inr 7), .inr (.inr 90)]) (h1 := (px_G1, px_up s 88 1 ((px_wr ((s 88 1) + 1)).tmod 6))) rfl ?_
    refine px_D_call (as := [.inr (.inr 90), .inr (.inr 7)]) (rest := []) rfl rfl rfl rfl ?_
    obtain ⟨q2, hq2, h⟩ := Option.bind_eq_some_iff.mp h
    refine px_D_mono (c_Fate_become (d := d + 0) hq2) ?_
    rintro _ _ ⟨rfl, rfl⟩
    show px_D sc (d + 1) 78 15 [(0, .inr (.inr 88)), (1, .inr (.inr 7))] [] (px_G1, q2) _
    refine px_D_st 6 (ip1 := 21) (ls1 := [(0, .inr (.inr 88)), (1, .inr (.inr 7))]) (st1 := [.inl (px_wr ((q2 88 2) + 1)), .inl (6), .inr (.inr 88)]) (h1 := (px_G1, q2)) rfl ?_
    refine px_D_call (as := [.inl (6), .inl (px_wr ((q2 88 2) + 1))]) (rest := [.inr (.inr 88)]) rfl rfl rfl rfl ?_
    refine px_D_mono (c_Math_min (d := d + 0) rfl) ?_
    rintro _ _ ⟨rfl, rfl⟩
    show px_D sc (d + 1) 78 22 [(0, .inr (.inr 88)), (1, .inr (.inr 7))] [.inl (f_Math_min q2 6 (px_wr ((q2 88 2) + 1))), .inr (.inr 88)] (px_G1, q2) _
    refine px_D_st 1 (ip1 := 23) (ls1 := [(0, .inr (.inr 88)), (1, .inr (.inr 7))]) (st1 := []) (h1 := (px_G1, px_up q2 88 2 (f_Math_min q2 6 (px_wr ((q2 88 2) + 1))))) rfl ?_
    cases h
    exact px_D_vret rfl ⟨rfl, rfl⟩
  rw [if_neg hc1] at h
  by_cases hc3 : ((px_up s 88 1 ((px_wr ((s 88 1) + 1)).tmod 6)) 88 1) = 1
  · rw [if_pos hc3] at h
    refine px_D_aald (k := 84) (n := 6) (c := 1) (r := 95) rfl rfl hc3 (by decide) rfl ?_
    refine px_D_st 1 (ip1 := 14) (ls1 := [(0, .inr (.inr 88)), (1, .inr (.inr 7))]) (st1 := [.inr (.inr 7), .inr (.inr 95)]) (h1 := (px_G1, px_up s 88 1 ((px_wr ((s 88 1) + 1)).tmod 6))) rfl ?_
    refine px_D_call (as := [.inr (.inr 95), .inr (.inr 7)]) (rest := []) rfl rfl rfl rfl ?_
    obtain ⟨q4, hq4, h⟩ := Option.bind_eq_some_iff.mp h
    refine px_D_mono (c_Fate_become_6 (d := d + 0) hq4) ?_
    rintro _ _ ⟨rfl, rfl⟩
    show px_D sc (d + 1) 78 15 [(0, .inr (.inr 88)), (1, .inr (.inr 7))] [] (px_G1, q4) _
    refine px_D_st 6 (ip1 := 21) (ls1 := [(0, .inr (.inr 88)), (1, .inr (.inr 7))]) (st1 := [.inl (px_wr ((q4 88 2) + 1)), .inl (6), .inr (.inr 88)]) (h1 := (px_G1, q4)) rfl ?_
    refine px_D_call (as := [.inl (6), .inl (px_wr ((q4 88 2) + 1))]) (rest := [.inr (.inr 88)]) rfl rfl rfl rfl ?_
    refine px_D_mono (c_Math_min (d := d + 0) rfl) ?_
    rintro _ _ ⟨rfl, rfl⟩
    show px_D sc (d + 1) 78 22 [(0, .inr (.inr 88)), (1, .inr (.inr 7))] [.inl (f_Math_min q4 6 (px_wr ((q4 88 2) + 1))), .inr (.inr 88)] (px_G1, q4) _
    refine px_D_st 1 (ip1 := 23) (ls1 := [(0, .inr (.inr 88)), (1, .inr (.inr 7))]) (st1 := []) (h1 := (px_G1, px_up q4 88 2 (f_Math_min q4 6 (px_wr ((q4 88 2) + 1))))) rfl ?_
    cases h
    exact px_D_vret rfl ⟨rfl, rfl⟩
  rw [if_neg hc3] at h
  by_cases hc5 : ((px_up s 88 1 ((px_wr ((s 88 1) + 1)).tmod 6)) 88 1) = 2
  · rw [if_pos hc5] at h
    refine px_D_aald (k := 84) (n := 6) (c := 2) (r := 100) rfl rfl hc5 (by decide) rfl ?_
    refine px_D_st 1 (ip1 := 14) (ls1 := [(0, .inr (.inr 88)), (1, .inr (.inr 7))]) (st1 := [.inr (.inr 7), .inr (.inr 100)]) (h1 := (px_G1, px_up s 88 1 ((px_wr ((s 88 1) + 1)).tmod 6))) rfl ?_
    refine px_D_call (as := [.inr (.inr 100), .inr (.inr 7)]) (rest := []) rfl rfl rfl rfl ?_
    obtain ⟨q6, hq6, h⟩ := Option.bind_eq_some_iff.mp h
    refine px_D_mono (c_Fate_become_5 (d := d + 0) hq6) ?_
    rintro _ _ ⟨rfl, rfl⟩
    show px_D sc (d + 1) 78 15 [(0, .inr (.inr 88)), (1, .inr (.inr 7))] [] (px_G1, q6) _
    refine px_D_st 6 (ip1 := 21) (ls1 := [(0, .inr (.inr 88)), (1, .inr (.inr 7))]) (st1 := [.inl (px_wr ((q6 88 2) + 1)), .inl (6), .inr (.inr 88)]) (h1 := (px_G1, q6)) rfl ?_
    refine px_D_call (as := [.inl (6), .inl (px_wr ((q6 88 2) + 1))]) (rest := [.inr (.inr 88)]) rfl rfl rfl rfl ?_
    refine px_D_mono (c_Math_min (d := d + 0) rfl) ?_
    rintro _ _ ⟨rfl, rfl⟩
    show px_D sc (d + 1) 78 22 [(0, .inr (.inr 88)), (1, .inr (.inr 7))] [.inl (f_Math_min q6 6 (px_wr ((q6 88 2) + 1))), .inr (.inr 88)] (px_G1, q6) _
    refine px_D_st 1 (ip1 := 23) (ls1 := [(0, .inr (.inr 88)), (1, .inr (.inr 7))]) (st1 := []) (h1 := (px_G1, px_up q6 88 2 (f_Math_min q6 6 (px_wr ((q6 88 2) + 1))))) rfl ?_
    cases h
    exact px_D_vret rfl ⟨rfl, rfl⟩
  rw [if_neg hc5] at h
  by_cases hc7 : ((px_up s 88 1 ((px_wr ((s 88 1) + 1)).tmod 6)) 88 1) = 3
  · rw [if_pos hc7] at h
    refine px_D_aald (k := 84) (n := 6) (c := 3) (r := 105) rfl rfl hc7 (by decide) rfl ?_
    refine px_D_st 1 (ip1 := 14) (ls1 := [(0, .inr (.inr 88)), (1, .inr (.inr 7))]) (st1 := [.inr (.inr 7), .inr (.inr 105)]) (h1 := (px_G1, px_up s 88 1 ((px_wr ((s 88 1) + 1)).tmod 6))) rfl ?_
    refine px_D_call (as := [.inr (.inr 105), .inr (.inr 7)]) (rest := []) rfl rfl rfl rfl ?_
    obtain ⟨q8, hq8, h⟩ := Option.bind_eq_some_iff.mp h
    refine px_D_mono (c_Fate_become_3 (d := d + 0) hq8) ?_
    rintro _ _ ⟨rfl, rfl⟩
    show px_D sc (d + 1) 78 15 [(0, .inr (.inr 88)), (1, .inr (.inr 7))] [] (px_G1, q8) _
    refine px_D_st 6 (ip1 := 21) (ls1 := [(0, .inr (.inr 88)), (1, .inr (.inr 7))]) (st1 := [.inl (px_wr ((q8 88 2) + 1)), .inl (6), .inr (.inr 88)]) (h1 := (px_G1, q8)) rfl ?_
    refine px_D_call (as := [.inl (6), .inl (px_wr ((q8 88 2) + 1))]) (rest := [.inr (.inr 88)]) rfl rfl rfl rfl ?_
    refine px_D_mono (c_Math_min (d := d + 0) rfl) ?_
    rintro _ _ ⟨rfl, rfl⟩
    show px_D sc (d + 1) 78 22 [(0, .inr (.inr 88)), (1, .inr (.inr 7))] [.inl (f_Math_min q8 6 (px_wr ((q8 88 2) + 1))), .inr (.inr 88)] (px_G1, q8) _
    refine px_D_st 1 (ip1 := 23) (ls1 := [(0, .inr (.inr 88)), (1, .inr (.inr 7))]) (st1 := []) (h1 := (px_G1, px_up q8 88 2 (f_Math_min q8 6 (px_wr ((q8 88 2) + 1))))) rfl ?_
    cases h
    exact px_D_vret rfl ⟨rfl, rfl⟩
  rw [if_neg hc7] at h
  by_cases hc9 : ((px_up s 88 1 ((px_wr ((s 88 1) + 1)).tmod 6)) 88 1) = 4
  · rw [if_pos hc9] at h
    refine px_D_aald (k := 84) (n := 6) (c := 4) (r := 110) rfl rfl hc9 (by decide) rfl ?_
    refine px_D_st 1 (ip1 := 14) (ls1 := [(0, .inr (.inr 88)), (1, .inr (.inr 7))]) (st1 := [.inr (.inr 7), .inr (.inr 110)]) (h1 := (px_G1, px_up s 88 1 ((px_wr ((s 88 1) + 1)).tmod 6))) rfl ?_
    refine px_D_call (as := [.inr (.inr 110), .inr (.inr 7)]) (rest := []) rfl rfl rfl rfl ?_
    obtain ⟨q10, hq10, h⟩ := Option.bind_eq_some_iff.mp h
    refine px_D_mono (c_Fate_become_2 (d := d + 0) hq10) ?_
    rintro _ _ ⟨rfl, rfl⟩
    show px_D sc (d + 1) 78 15 [(0, .inr (.inr 88)), (1, .inr (.inr 7))] [] (px_G1, q10) _
    refine px_D_st 6 (ip1 := 21) (ls1 := [(0, .inr (.inr 88)), (1, .inr (.inr 7))]) (st1 := [.inl (px_wr ((q10 88 2) + 1)), .inl (6), .inr (.inr 88)]) (h1 := (px_G1, q10)) rfl ?_
    refine px_D_call (as := [.inl (6), .inl (px_wr ((q10 88 2) + 1))]) (rest := [.inr (.inr 88)]) rfl rfl rfl rfl ?_
    refine px_D_mono (c_Math_min (d := d + 0) rfl) ?_
    rintro _ _ ⟨rfl, rfl⟩
    show px_D sc (d + 1) 78 22 [(0, .inr (.inr 88)), (1, .inr (.inr 7))] [.inl (f_Math_min q10 6 (px_wr ((q10 88 2) + 1))), .inr (.inr 88)] (px_G1, q10) _
    refine px_D_st 1 (ip1 := 23) (ls1 := [(0, .inr (.inr 88)), (1, .inr (.inr 7))]) (st1 := []) (h1 := (px_G1, px_up q10 88 2 (f_Math_min q10 6 (px_wr ((q10 88 2) + 1))))) rfl ?_
    cases h
    exact px_D_vret rfl ⟨rfl, rfl⟩
  rw [if_neg hc9] at h
  by_cases hc11 : ((px_up s 88 1 ((px_wr ((s 88 1) + 1)).tmod 6)) 88 1) = 5
  · rw [if_pos hc11] at h
    refine px_D_aald (k := 84) (n := 6) (c := 5) (r := 115) rfl rfl hc11 (by decide) rfl ?_
    refine px_D_st 1 (ip1 := 14) (ls1 := [(0, .inr (.inr 88)), (1, .inr (.inr 7))]) (st1 := [.inr (.inr 7), .inr (.inr 115)]) (h1 := (px_G1, px_up s 88 1 ((px_wr ((s 88 1) + 1)).tmod 6))) rfl ?_
    refine px_D_call (as := [.inr (.inr 115), .inr (.inr 7)]) (rest := []) rfl rfl rfl rfl ?_
    obtain ⟨q12, hq12, h⟩ := Option.bind_eq_some_iff.mp h
    refine px_D_mono (c_Fate_become_4 (d := d + 0) hq12) ?_
    rintro _ _ ⟨rfl, rfl⟩
    show px_D sc (d + 1) 78 15 [(0, .inr (.inr 88)), (1, .inr (.inr 7))] [] (px_G1, q12) _
    refine px_D_st 6 (ip1 := 21) (ls1 := [(0, .inr (.inr 88)), (1, .inr (.inr 7))]) (st1 := [.inl (px_wr ((q12 88 2) + 1)), .inl (6), .inr (.inr 88)]) (h1 := (px_G1, q12)) rfl ?_
    refine px_D_call (as := [.inl (6), .inl (px_wr ((q12 88 2) + 1))]) (rest := [.inr (.inr 88)]) rfl rfl rfl rfl ?_
    refine px_D_mono (c_Math_min (d := d + 0) rfl) ?_
    rintro _ _ ⟨rfl, rfl⟩
    show px_D sc (d + 1) 78 22 [(0, .inr (.inr 88)), (1, .inr (.inr 7))] [.inl (f_Math_min q12 6 (px_wr ((q12 88 2) + 1))), .inr (.inr 88)] (px_G1, q12) _
    refine px_D_st 1 (ip1 := 23) (ls1 := [(0, .inr (.inr 88)), (1, .inr (.inr 7))]) (st1 := []) (h1 := (px_G1, px_up q12 88 2 (f_Math_min q12 6 (px_wr ((q12 88 2) + 1))))) rfl ?_
    cases h
    exact px_D_vret rfl ⟨rfl, rfl⟩
  rw [if_neg hc11] at h
  cases h

def f_R_rememberDeed (s : px_Z) : Option (px_Z) := (f_Trail_remember s ).bind (fun q1 => (f_Least_forget q1 ).bind (fun q2 => some q2))
set_option maxHeartbeats 4000000 in
set_option maxRecDepth 100000 in
theorem c_R_rememberDeed {sc : List Int} {d : Nat} {s : px_Z} {out : px_Z} (h : f_R_rememberDeed s  = some out) : px_D sc (d + 2) 143 0 [(0, .inr (.inr 5))] [] (px_G1, s) (px_Qv out) := by
  unfold f_R_rememberDeed at h
  refine px_D_st 5 (ip1 := 5) (ls1 := [(0, .inr (.inr 5))]) (st1 := [.inr (.inr 7), .inr (.inr 88)]) (h1 := (px_G1, s)) rfl ?_
  refine px_D_call (as := [.inr (.inr 88), .inr (.inr 7)]) (rest := []) rfl rfl rfl rfl ?_
  obtain ⟨q1, hq1, h⟩ := Option.bind_eq_some_iff.mp h
  refine px_D_mono (c_Trail_remember (d := d + 0) hq1) ?_
  rintro _ _ ⟨rfl, rfl⟩
  show px_D sc (d + 2) 143 6 [(0, .inr (.inr 5))] [] (px_G1, q1) _
  refine px_D_st 2 (ip1 := 8) (ls1 := [(0, .inr (.inr 5))]) (st1 := [.inr (.inr 145)]) (h1 := (px_G1, q1)) rfl ?_
  refine px_D_call (as := [.inr (.inr 145)]) (rest := []) rfl rfl rfl rfl ?_
  obtain ⟨q2, hq2, h⟩ := Option.bind_eq_some_iff.mp h
  refine px_D_mono (c_Least_forget (d := d + 1) hq2) ?_
  rintro _ _ ⟨rfl, rfl⟩
  show px_D sc (d + 2) 143 9 [(0, .inr (.inr 5))] [] (px_G1, q2) _
  cases h
  exact px_D_vret rfl ⟨rfl, rfl⟩

def f_Law_joined (s : px_Z) (x0 : Int) (x1 : Int) (x2 : Int) : Option (Int) := if (x0) = 42 then some (px_wr (x1 * x2)) else (if (x0) = 43 then some (px_wr (x1 + x2)) else (if (x0) = 45 then some (px_wr (x1 - x2)) else (if (x0) = 47 then (if (x2) = (0) then some 0 else (if (x2) = 0 then none else some (px_wr (x1.tdiv x2)))) else (if (x0) = 60 then (if (x2) ≤ (x1) then some 0 else some 1) else (if (x0) = 61 then (if (x1) = (x2) then some 1 else some 0) else (if (x0) = 62 then (if (x1) ≤ (x2) then some 0 else some 1) else (if (x0) = 270 then some (px_or (x1) (x2)) else (if (x0) = 271 then some (px_and (x1) (x2)) else some 0))))))))
set_option maxHeartbeats 4000000 in
set_option maxRecDepth 100000 in
theorem c_Law_joined {sc : List Int} {d : Nat} {s : px_Z} {x0 : Int} {x1 : Int} {x2 : Int} {out : Int} (h : f_Law_joined s x0 x1 x2 = some out) : px_D sc (d + 0) 19 0 [(0, .inl (x0)), (1, .inl (x1)), (2, .inl (x2))] [] (px_G1, s) (px_Qp s out) := by
  unfold f_Law_joined at h
  refine px_D_st 1 (ip1 := 1) (ls1 := [(0, .inl (x0)), (1, .inl (x1)), (2, .inl (x2))]) (st1 := [.inl (x0)]) (h1 := (px_G1, s)) rfl ?_
  by_cases hc1 : (x0) = 42
  · rw [if_pos hc1] at h
    refine px_D_lsw (t := 10) rfl (by rw [hc1]; rfl) ?_
    refine px_D_st 3 (ip1 := 13) (ls1 := [(0, .inl (x0)), (1, .inl (x1)), (2, .inl (x2))]) (st1 := [.inl (px_wr (x1 * x2))]) (h1 := (px_G1, s)) rfl ?_
    cases h
    exact px_D_iret rfl rfl ⟨rfl, rfl⟩
  rw [if_neg hc1] at h
  by_cases hc2 : (x0) = 43
  · rw [if_pos hc2] at h
    refine px_D_lsw (t := 2) rfl (by rw [hc2]; rfl) ?_
    refine px_D_st 3 (ip1 := 5) (ls1 := [(0, .inl (x0)), (1, .inl (x1)), (2, .inl (x2))]) (st1 := [.inl (px_wr (x1 + x2))]) (h1 := (px_G1, s)) rfl ?_
    cases h
    exact px_D_iret rfl rfl ⟨rfl, rfl⟩
  rw [if_neg hc2] at h
  by_cases hc3 : (x0) = 45
  · rw [if_pos hc3] at h
    refine px_D_lsw (t := 6) rfl (by rw [hc3]; rfl) ?_
    refine px_D_st 3 (ip1 := 9) (ls1 := [(0, .inl (x0)), (1, .inl (x1)), (2, .inl (x2))]) (st1 := [.inl (px_wr (x1 - x2))]) (h1 := (px_G1, s)) rfl ?_
    cases h
    exact px_D_iret rfl rfl ⟨rfl, rfl⟩
  rw [if_neg hc3] at h
  by_cases hc4 : (x0) = 47
  · rw [if_pos hc4] at h
    refine px_D_lsw (t := 14) rfl (by rw [hc4]; rfl) ?_
    refine px_D_st 1 (ip1 := 15) (ls1 := [(0, .inl (x0)), (1, .inl (x1)), (2, .inl (x2))]) (st1 := [.inl (x2)]) (h1 := (px_G1, s)) rfl ?_
    refine px_D_ifc rfl (fun hc => ?_) (fun hc => ?_)
    · have hc5 : ¬ ((x2) = (0)) := of_decide_eq_true hc
      rw [if_neg hc5] at h
      refine px_D_st 2 (ip1 := 20) (ls1 := [(0, .inl (x0)), (1, .inl (x1)), (2, .inl (x2))]) (st1 := [.inl (x2), .inl (x1)]) (h1 := (px_G1, s)) rfl ?_
      by_cases hc6 : (x2) = 0
      · rw [if_pos hc6] at h; cases h
      rw [if_neg hc6] at h
      refine px_D_div rfl hc6 ?_
      cases h
      exact px_D_iret rfl rfl ⟨rfl, rfl⟩
    · have hc5 : (x2) = (0) := Decidable.of_not_not (of_decide_eq_false hc)
      rw [if_pos hc5] at h
      refine px_D_st 2 (ip1 := 21) (ls1 := [(0, .inl (x0)), (1, .inl (x1)), (2, .inl (x2))]) (st1 := [.inl (0)]) (h1 := (px_G1, s)) rfl ?_
      cases h
      exact px_D_iret rfl rfl ⟨rfl, rfl⟩
  rw [if_neg hc4] at h
  by_cases hc7 : (x0) = 60
  · rw [if_pos hc7] at h
    refine px_D_lsw (t := 22) rfl (by rw [hc7]; rfl) ?_
    refine px_D_st 2 (ip1 := 24) (ls1 := [(0, .inl (x0)), (1, .inl (x1)), (2, .inl (x2))]) (st1 := [.inl (x2), .inl (x1)]) (h1 := (px_G1, s)) rfl ?_
    refine px_D_icmp rfl (fun hc => ?_) (fun hc => ?_)
    · have hc8 : (x2) ≤ (x1) := of_decide_eq_true hc
      rw [if_pos hc8] at h
      refine px_D_st 1 (ip1 := 28) (ls1 := [(0, .inl (x0)), (1, .inl (x1)), (2, .inl (x2))]) (st1 := [.inl (0)]) (h1 := (px_G1, s)) rfl ?_
      cases h
      exact px_D_iret rfl rfl ⟨rfl, rfl⟩
    · have hc8 : ¬ ((x2) ≤ (x1)) := of_decide_eq_false hc
      rw [if_neg hc8] at h
      refine px_D_st 2 (ip1 := 28) (ls1 := [(0, .inl (x0)), (1, .inl (x1)), (2, .inl (x2))]) (st1 := [.inl (1)]) (h1 := (px_G1, s)) rfl ?_
      cases h
      exact px_D_iret rfl rfl ⟨rfl, rfl⟩
  rw [if_neg hc7] at h
  by_cases hc9 : (x0) = 61
  · rw [if_pos hc9] at h
    refine px_D_lsw (t := 29) rfl (by rw [hc9]; rfl) ?_
    refine px_D_st 2 (ip1 := 31) (ls1 := [(0, .inl (x0)), (1, .inl (x1)), (2, .inl (x2))]) (st1 := [.inl (x2), .inl (x1)]) (h1 := (px_G1, s)) rfl ?_
    refine px_D_icmp rfl (fun hc => ?_) (fun hc => ?_)
    · have hc10 : ¬ ((x1) = (x2)) := of_decide_eq_true hc
      rw [if_neg hc10] at h
      refine px_D_st 1 (ip1 := 35) (ls1 := [(0, .inl (x0)), (1, .inl (x1)), (2, .inl (x2))]) (st1 := [.inl (0)]) (h1 := (px_G1, s)) rfl ?_
      cases h
      exact px_D_iret rfl rfl ⟨rfl, rfl⟩
    · have hc10 : (x1) = (x2) := Decidable.of_not_not (of_decide_eq_false hc)
      rw [if_pos hc10] at h
      refine px_D_st 2 (ip1 := 35) (ls1 := [(0, .inl (x0)), (1, .inl (x1)), (2, .inl (x2))]) (st1 := [.inl (1)]) (h1 := (px_G1, s)) rfl ?_
      cases h
      exact px_D_iret rfl rfl ⟨rfl, rfl⟩
  rw [if_neg hc9] at h
  by_cases hc11 : (x0) = 62
  · rw [if_pos hc11] at h
    refine px_D_lsw (t := 36) rfl (by rw [hc11]; rfl) ?_
    refine px_D_st 2 (ip1 := 38) (ls1 := [(0, .inl (x0)), (1, .inl (x1)), (2, .inl (x2))]) (st1 := [.inl (x2), .inl (x1)]) (h1 := (px_G1, s)) rfl ?_
    refine px_D_icmp rfl (fun hc => ?_) (fun hc => ?_)
    · have hc12 : (x1) ≤ (x2) := of_decide_eq_true hc
      rw [if_pos hc12] at h
      refine px_D_st 1 (ip1 := 42) (ls1 := [(0, .inl (x0)), (1, .inl (x1)), (2, .inl (x2))]) (st1 := [.inl (0)]) (h1 := (px_G1, s)) rfl ?_
      cases h
      exact px_D_iret rfl rfl ⟨rfl, rfl⟩
    · have hc12 : ¬ ((x1) ≤ (x2)) := of_decide_eq_false hc
      rw [if_neg hc12] at h
      refine px_D_st 2 (ip1 := 42) (ls1 := [(0, .inl (x0)), (1, .inl (x1)), (2, .inl (x2))]) (st1 := [.inl (1)]) (h1 := (px_G1, s)) rfl ?_
      cases h
      exact px_D_iret rfl rfl ⟨rfl, rfl⟩
  rw [if_neg hc11] at h
  by_cases hc13 : (x0) = 270
  · rw [if_pos hc13] at h
    refine px_D_lsw (t := 47) rfl (by rw [hc13]; rfl) ?_
    refine px_D_st 3 (ip1 := 50) (ls1 := [(0, .inl (x0)), (1, .inl (x1)), (2, .inl (x2))]) (st1 := [.inl (px_or (x1) (x2))]) (h1 := (px_G1, s)) rfl ?_
    cases h
    exact px_D_iret rfl rfl ⟨rfl, rfl⟩
  rw [if_neg hc13] at h
  by_cases hc14 : (x0) = 271
  · rw [if_pos hc14] at h
    refine px_D_lsw (t := 43) rfl (by rw [hc14]; rfl) ?_
    refine px_D_st 3 (ip1 := 46) (ls1 := [(0, .inl (x0)), (1, .inl (x1)), (2, .inl (x2))]) (st1 := [.inl (px_and (x1) (x2))]) (h1 := (px_G1, s)) rfl ?_
    cases h
    exact px_D_iret rfl rfl ⟨rfl, rfl⟩
  rw [if_neg hc14] at h
  refine px_D_lsw (t := 51) rfl (by simp only [px_lk]; rw [if_neg hc1, if_neg hc2, if_neg hc3, if_neg hc4, if_neg hc7, if_neg hc9, if_neg hc11, if_neg hc13, if_neg hc14]) ?_
  refine px_D_st 1 (ip1 := 52) (ls1 := [(0, .inl (x0)), (1, .inl (x1)), (2, .inl (x2))]) (st1 := [.inl (0)]) (h1 := (px_G1, s)) rfl ?_
  cases h
  exact px_D_iret rfl rfl ⟨rfl, rfl⟩

def l_Law_run_4 (k87 : px_Z → Int → Option (Int × px_Z)) : Nat → px_Z → Int → Int → Int → Option (Int × px_Z)
  | 0, _, _, _, _ => none
  | n + 1, s, x2, x4, x5 => if (x2) ≤ (x5) then k87 s x4 else (if 0 ≤ (x5) ∧ (x5) < 400 then if (1000) ≤ (s 19 x5.toNat) then (if (32) ≤ (x4) then l_Law_run_4 k87 n s x2 x4 (px_wr (x5 + 1)) else (if (s 19 x5.toNat) < (1000) then (if 0 ≤ (px_wr ((s 19 x5.toNat) - 256)) ∧ (px_wr ((s 19 x5.toNat) - 256)) < 9 then if 0 ≤ (x4) ∧ (x4) < 32 then l_Law_run_4 k87 n (px_up s 20 x4.toNat (s 46 (px_wr ((s 19 x5.toNat) - 256)).toNat)) x2 (px_wr (x4 + 1)) (px_wr (x5 + 1)) else none else none) else (if 0 ≤ (x4) ∧ (x4) < 32 then l_Law_run_4 k87 n (px_up s 20 x4.toNat (px_wr ((s 19 x5.toNat) - 1000))) x2 (px_wr (x4 + 1)) (px_wr (x5 + 1)) else none))) else (if (f_R_within s (s 19 x5.toNat) 256 264) = (0) then (if (s 19 x5.toNat) = (272) then (if (x4) ≤ (0) then l_Law_run_4 k87 n s x2 x4 (px_wr (x5 + 1)) else (if 0 ≤ (px_wr (x4 - 1)) ∧ (px_wr (x4 - 1)) < 32 then if 0 ≤ (px_wr (x4 - 1)) ∧ (px_wr (x4 - 1)) < 32 then l_Law_run_4 k87 n (px_up s 20 (px_wr (x4 - 1)).toNat (px_wr (1 - (s 20 (px_wr (x4 - 1)).toNat)))) x2 x4 (px_wr (x5 + 1)) else none else none)) else (if (x4) ≤ (1) then l_Law_run_4 k87 n s x2 x4 (px_wr (x5 + 1)) else (if 0 ≤ (px_wr ((px_wr (x4 + (-1))) - 1)) ∧ (px_wr ((px_wr (x4 + (-1))) - 1)) < 32 then if 0 ≤ (px_wr (x4 + (-1))) ∧ (px_wr (x4 + (-1))) < 32 then (f_Law_joined s (s 19 x5.toNat) (s 20 (px_wr ((px_wr (x4 + (-1))) - 1)).toNat) (s 20 (px_wr (x4 + (-1))).toNat)).bind (fun q14 => if 0 ≤ (px_wr ((px_wr (x4 + (-1))) - 1)) ∧ (px_wr ((px_wr (x4 + (-1))) - 1)) < 32 then l_Law_run_4 k87 n (px_up s 20 (px_wr ((px_wr (x4 + (-1))) - 1)).toNat q14) x2 (px_wr (x4 + (-1))) (px_wr (x5 + 1)) else none) else none else none))) else (if (32) ≤ (x4) then l_Law_run_4 k87 n s x2 x4 (px_wr (x5 + 1)) else (if (s 19 x5.toNat) < (1000) then (if 0 ≤ (px_wr ((s 19 x5.toNat) - 256)) ∧ (px_wr ((s 19 x5.toNat) - 256)) < 9 then if 0 ≤ (x4) ∧ (x4) < 32 then l_Law_run_4 k87 n (px_up s 20 x4.toNat (s 46 (px_wr ((s 19 x5.toNat) - 256)).toNat)) x2 (px_wr (x4 + 1)) (px_wr (x5 + 1)) else none else none) else (if 0 ≤ (x4) ∧ (x4) < 32 then l_Law_run_4 k87 n (px_up s 20 x4.toNat (px_wr ((s 19 x5.toNat) - 1000))) x2 (px_wr (x4 + 1)) (px_wr (x5 + 1)) else none)))) else none)
set_option maxHeartbeats 4000000 in
set_option maxRecDepth 100000 in
theorem cl_Law_run_4 {sc : List Int} {d : Nat} {k87 : px_Z → Int → Option (Int × px_Z)}  (hk87 : ∀ (s : px_Z) (y4 : Int) (out : Int × px_Z), k87 s y4 = some out → px_D sc (d + 1) 18 87 [(0, .inr (.inr 14)), (4, .inl (y4))] [] (px_G1, s) (px_Qi out)) : ∀ (n : Nat) (s : px_Z) (x2 : Int) (x4 : Int) (x5 : Int) (out : Int × px_Z), l_Law_run_4 k87 n s x2 x4 x5 = some out → px_D sc (d + 1) 18 4 [(0, .inr (.inr 14)), (2, .inl (x2)), (3, .inr (.inr 46)), (4, .inl (x4)), (5, .inl (x5))] [] (px_G1, s) (px_Qi out) := by
  intro n
  induction n with
  | zero => intro s x2 x4 x5 out h; cases h
  | succ n ih =>
    intro s x2 x4 x5 out h
    rw [l_Law_run_4] at h
    refine px_D_st 2 (ip1 := 6) (ls1 := [(0, .inr (.inr 14)), (2, .inl (x2)), (3, .inr (.inr 46)), (4, .inl (x4)), (5, .inl (x5))]) (st1 := [.inl (x2), .inl (x5)]) (h1 := (px_G1, s)) rfl ?_
    refine px_D_icmp rfl (fun hc => ?_) (fun hc => ?_)
    · have hc1 : (x2) ≤ (x5) := of_decide_eq_true hc
      rw [if_pos hc1] at h
      refine px_D_ls [(0, .inr (.inr 14)), (4, .inl (x4))] rfl rfl (List.forall_mem_cons.mpr ⟨rfl, List.forall_mem_cons.mpr ⟨rfl, fun _ h => absurd h List.not_mem_nil⟩⟩) ?_
      exact hk87 _ _ _ h
    · have hc1 : ¬ ((x2) ≤ (x5)) := of_decide_eq_false hc
      rw [if_neg hc1] at h
      refine px_D_st 3 (ip1 := 10) (ls1 := [(0, .inr (.inr 14)), (2, .inl (x2)), (3, .inr (.inr 46)), (4, .inl (x4)), (5, .inl (x5))]) (st1 := [.inl (x5), .inr (.inr 19)]) (h1 := (px_G1, s)) rfl ?_
      by_cases hc2 : 0 ≤ (x5) ∧ (x5) < 400
      case neg => rw [if_neg hc2] at h; cases h
      rw [if_pos hc2] at h
      refine px_D_iald (k := 14) (n := 400) rfl rfl hc2 ?_
      refine px_D_st 3 (ip1 := 14) (ls1 := [(6, .inl (s 19 x5.toNat)), (0, .inr (.inr 14)), (2, .inl (x2)), (3, .inr (.inr 46)), (4, .inl (x4)), (5, .inl (x5))]) (st1 := [.inl (1000), .inl (s 19 x5.toNat)]) (h1 := (px_G1, s)) rfl ?_
      refine px_D_icmp rfl (fun hc => ?_) (fun hc => ?_)
      · have hc3 : (1000) ≤ (s 19 x5.toNat) := of_decide_eq_true hc
        rw [if_pos hc3] at h
        refine px_D_st 4 (ip1 := 24) (ls1 := [(6, .inl (s 19 x5.toNat)), (0, .inr (.inr 14)), (2, .inl (x2)), (3, .inr (.inr 46)), (4, .inl (x4)), (5, .inl (x5))]) (st1 := [.inl (32), .inl (x4)]) (h1 := (px_G1, s)) rfl ?_
        refine px_D_icmp rfl (fun hc => ?_) (fun hc => ?_)
        · have hc4 : (32) ≤ (x4) := of_decide_eq_true hc
          rw [if_pos hc4] at h
          refine px_D_st 2 (ip1 := 4) (ls1 := [(5, .inl (px_wr (x5 + 1))), (6, .inl (s 19 x5.toNat)), (0, .inr (.inr 14)), (2, .inl (x2)), (3, .inr (.inr 46)), (4, .inl (x4))]) (st1 := []) (h1 := (px_G1, s)) rfl ?_
          refine px_D_ls [(0, .inr (.inr 14)), (2, .inl (x2)), (3, .inr (.inr 46)), (4, .inl (x4)), (5, .inl (px_wr (x5 + 1)))] rfl rfl (List.forall_mem_cons.mpr ⟨rfl, List.forall_mem_cons.mpr ⟨rfl, List.forall_mem_cons.mpr ⟨rfl, List.forall_mem_cons.mpr ⟨rfl, List.forall_mem_cons.mpr ⟨rfl, fun _ h => absurd h List.not_mem_nil⟩⟩⟩⟩⟩) ?_
          exact ih _ _ _ _ _ h
        · have hc4 : ¬ ((32) ≤ (x4)) := of_decide_eq_false hc
          rw [if_neg hc4] at h
          refine px_D_st 5 (ip1 := 30) (ls1 := [(6, .inl (s 19 x5.toNat)), (0, .inr (.inr 14)), (2, .inl (x2)), (3, .inr (.inr 46)), (4, .inl (x4)), (5, .inl (x5))]) (st1 := [.inl (1000), .inl (s 19 x5.toNat), .inl (x4), .inr (.inr 20)]) (h1 := (px_G1, s)) rfl ?_
          refine px_D_icmp rfl (fun hc => ?_) (fun hc => ?_)
          · have hc5 : (s 19 x5.toNat) < (1000) := of_decide_eq_true hc
            rw [if_pos hc5] at h
            refine px_D_st 4 (ip1 := 39) (ls1 := [(6, .inl (s 19 x5.toNat)), (0, .inr (.inr 14)), (2, .inl (x2)), (3, .inr (.inr 46)), (4, .inl (x4)), (5, .inl (x5))]) (st1 := [.inl (px_wr ((s 19 x5.toNat) - 256)), .inr (.inr 46), .inl (x4), .inr (.inr 20)]) (h1 := (px_G1, s)) rfl ?_
            by_cases hc6 : 0 ≤ (px_wr ((s 19 x5.toNat) - 256)) ∧ (px_wr ((s 19 x5.toNat) - 256)) < 9
            case neg => rw [if_neg hc6] at h; cases h
            rw [if_pos hc6] at h
            refine px_D_iald (k := 41) (n := 9) rfl rfl hc6 ?_
            by_cases hc7 : 0 ≤ (x4) ∧ (x4) < 32
            case neg => rw [if_neg hc7] at h; cases h
            rw [if_pos hc7] at h
            refine px_D_iast (k := 15) (n := 32) rfl rfl hc7 ?_
            refine px_D_st 4 (ip1 := 4) (ls1 := [(5, .inl (px_wr (x5 + 1))), (4, .inl (px_wr (x4 + 1))), (6, .inl (s 19 x5.toNat)), (0, .inr (.inr 14)), (2, .inl (x2)), (3, .inr (.inr 46))]) (st1 := []) (h1 := (px_G1, px_up s 20 x4.toNat (s 46 (px_wr ((s 19 x5.toNat) - 256)).toNat))) rfl ?_
            refine px_D_ls [(0, .inr (.inr 14)), (2, .inl (x2)), (3, .inr (.inr 46)), (4, .inl (px_wr (x4 + 1))), (5, .inl (px_wr (x5 + 1)))] rfl rfl (List.forall_mem_cons.mpr ⟨rfl, List.forall_mem_cons.mpr ⟨rfl, List.forall_mem_cons.mpr ⟨rfl, List.forall_mem_cons.mpr ⟨rfl, List.forall_mem_cons.mpr ⟨rfl, fun _ h => absurd h List.not_mem_nil⟩⟩⟩⟩⟩) ?_
            exact ih _ _ _ _ _ h
          · have hc5 : ¬ ((s 19 x5.toNat) < (1000)) := of_decide_eq_false hc
            rw [if_neg hc5] at h
            refine px_D_st 4 (ip1 := 40) (ls1 := [(6, .inl (s 19 x5.toNat)), (0, .inr (.inr 14)), (2, .inl (x2)), (3, .inr (.inr 46)), (4, .inl (x4)), (5, .inl (x5))]) (st1 := [.inl (px_wr ((s 19 x5.toNat) - 1000)), .inl (x4), .inr (.inr 20)]) (h1 := (px_G1, s)) rfl ?_
            by_cases hc8 : 0 ≤ (x4) ∧ (x4) < 32
            case neg => rw [if_neg hc8] at h; cases h
            rw [if_pos hc8] at h
            refine px_D_iast (k := 15) (n := 32) rfl rfl hc8 ?_
            refine px_D_st 4 (ip1 := 4) (ls1 := [(5, .inl (px_wr (x5 + 1))), (4, .inl (px_wr (x4 + 1))), (6, .inl (s 19 x5.toNat)), (0, .inr (.inr 14)), (2, .inl (x2)), (3, .inr (.inr 46))]) (st1 := []) (h1 := (px_G1, px_up s 20 x4.toNat (px_wr ((s 19 x5.toNat) - 1000)))) rfl ?_
            refine px_D_ls [(0, .inr (.inr 14)), (2, .inl (x2)), (3, .inr (.inr 46)), (4, .inl (px_wr (x4 + 1))), (5, .inl (px_wr (x5 + 1)))] rfl rfl (List.forall_mem_cons.mpr ⟨rfl, List.forall_mem_cons.mpr ⟨rfl, List.forall_mem_cons.mpr ⟨rfl, List.forall_mem_cons.mpr ⟨rfl, List.forall_mem_cons.mpr ⟨rfl, fun _ h => absurd h List.not_mem_nil⟩⟩⟩⟩⟩) ?_
            exact ih _ _ _ _ _ h
      · have hc3 : ¬ ((1000) ≤ (s 19 x5.toNat)) := of_decide_eq_false hc
        rw [if_neg hc3] at h
        refine px_D_st 3 (ip1 := 18) (ls1 := [(6, .inl (s 19 x5.toNat)), (0, .inr (.inr 14)), (2, .inl (x2)), (3, .inr (.inr 46)), (4, .inl (x4)), (5, .inl (x5))]) (st1 := [.inl (264), .inl (256), .inl (s 19 x5.toNat)]) (h1 := (px_G1, s)) rfl ?_
        refine px_D_call (as := [.inl (s 19 x5.toNat), .inl (256), .inl (264)]) (rest := []) rfl rfl rfl rfl ?_
        refine px_D_mono (c_R_within (d := d + 0) rfl) ?_
        rintro _ _ ⟨rfl, rfl⟩
        show px_D sc (d + 1) 18 19 [(6, .inl (s 19 x5.toNat)), (0, .inr (.inr 14)), (2, .inl (x2)), (3, .inr (.inr 46)), (4, .inl (x4)), (5, .inl (x5))] [.inl (f_R_within s (s 19 x5.toNat) 256 264)] (px_G1, s) _
        refine px_D_ifc rfl (fun hc => ?_) (fun hc => ?_)
        · have hc9 : (f_R_within s (s 19 x5.toNat) 256 264) = (0) := of_decide_eq_true hc
          rw [if_pos hc9] at h
          refine px_D_st 2 (ip1 := 45) (ls1 := [(6, .inl (s 19 x5.toNat)), (0, .inr (.inr 14)), (2, .inl (x2)), (3, .inr (.inr 46)), (4, .inl (x4)), (5, .inl (x5))]) (st1 := [.inl (272), .inl (s 19 x5.toNat)]) (h1 := (px_G1, s)) rfl ?_
          refine px_D_icmp rfl (fun hc => ?_) (fun hc => ?_)
          · have hc10 : ¬ ((s 19 x5.toNat) = (272)) := of_decide_eq_true hc
            rw [if_neg hc10] at h
            refine px_D_st 2 (ip1 := 65) (ls1 := [(6, .inl (s 19 x5.toNat)), (0, .inr (.inr 14)), (2, .inl (x2)), (3, .inr (.inr 46)), (4, .inl (x4)), (5, .inl (x5))]) (st1 := [.inl (1), .inl (x4)]) (h1 := (px_G1, s)) rfl ?_
            refine px_D_icmp rfl (fun hc => ?_) (fun hc => ?_)
            · have hc11 : (x4) ≤ (1) := of_decide_eq_true hc
              rw [if_pos hc11] at h
              refine px_D_st 2 (ip1 := 4) (ls1 := [(5, .inl (px_wr (x5 + 1))), (6, .inl (s 19 x5.toNat)), (0, .inr (.inr 14)), (2, .inl (x2)), (3, .inr (.inr 46)), (4, .inl (x4))]) (st1 := []) (h1 := (px_G1, s)) rfl ?_
              refine px_D_ls [(0, .inr (.inr 14)), (2, .inl (x2)), (3, .inr (.inr 46)), (4, .inl (x4)), (5, .inl (px_wr (x5 + 1)))] rfl rfl (List.forall_mem_cons.mpr ⟨rfl, List.forall_mem_cons.mpr ⟨rfl, List.forall_mem_cons.mpr ⟨rfl, List.forall_mem_cons.mpr ⟨rfl, List.forall_mem_cons.mpr ⟨rfl, fun _ h => absurd h List.not_mem_nil⟩⟩⟩⟩⟩) ?_
              exact ih _ _ _ _ _ h
            · have hc11 : ¬ ((x4) ≤ (1)) := of_decide_eq_false hc
              rw [if_neg hc11] at h
              refine px_D_st 12 (ip1 := 78) (ls1 := [(4, .inl (px_wr (x4 + (-1)))), (6, .inl (s 19 x5.toNat)), (0, .inr (.inr 14)), (2, .inl (x2)), (3, .inr (.inr 46)), (5, .inl (x5))]) (st1 := [.inl (px_wr ((px_wr (x4 + (-1))) - 1)), .inr (.inr 20), .inl (s 19 x5.toNat), .inl (px_wr ((px_wr (x4 + (-1))) - 1)), .inr (.inr 20)]) (h1 := (px_G1, s)) rfl ?_
              by_cases hc12 : 0 ≤ (px_wr ((px_wr (x4 + (-1))) - 1)) ∧ (px_wr ((px_wr (x4 + (-1))) - 1)) < 32
              case neg => rw [if_neg hc12] at h; cases h
              rw [if_pos hc12] at h
              refine px_D_iald (k := 15) (n := 32) rfl rfl hc12 ?_
              refine px_D_st 3 (ip1 := 82) (ls1 := [(4, .inl (px_wr (x4 + (-1)))), (6, .inl (s 19 x5.toNat)), (0, .inr (.inr 14)), (2, .inl (x2)), (3, .inr (.inr 46)), (5, .inl (x5))]) (st1 := [.inl (px_wr (x4 + (-1))), .inr (.inr 20), .inl (s 20 (px_wr ((px_wr (x4 + (-1))) - 1)).toNat), .inl (s 19 x5.toNat), .inl (px_wr ((px_wr (x4 + (-1))) - 1)), .inr (.inr 20)]) (h1 := (px_G1, s)) rfl ?_
              by_cases hc13 : 0 ≤ (px_wr (x4 + (-1))) ∧ (px_wr (x4 + (-1))) < 32
              case neg => rw [if_neg hc13] at h; cases h
              rw [if_pos hc13] at h
              refine px_D_iald (k := 15) (n := 32) rfl rfl hc13 ?_
              refine px_D_call (as := [.inl (s 19 x5.toNat), .inl (s 20 (px_wr ((px_wr (x4 + (-1))) - 1)).toNat), .inl (s 20 (px_wr (x4 + (-1))).toNat)]) (rest := [.inl (px_wr ((px_wr (x4 + (-1))) - 1)), .inr (.inr 20)]) rfl rfl rfl rfl ?_
              obtain ⟨q14, hq14, h⟩ := Option.bind_eq_some_iff.mp h
              refine px_D_mono (c_Law_joined (d := d + 0) hq14) ?_
              rintro _ _ ⟨rfl, rfl⟩
              show px_D sc (d + 1) 18 84 [(4, .inl (px_wr (x4 + (-1)))), (6, .inl (s 19 x5.toNat)), (0, .inr (.inr 14)), (2, .inl (x2)), (3, .inr (.inr 46)), (5, .inl (x5))] [.inl (q14), .inl (px_wr ((px_wr (x4 + (-1))) - 1)), .inr (.inr 20)] (px_G1, s) _
              by_cases hc15 : 0 ≤ (px_wr ((px_wr (x4 + (-1))) - 1)) ∧ (px_wr ((px_wr (x4 + (-1))) - 1)) < 32
              case neg => rw [if_neg hc15] at h; cases h
              rw [if_pos hc15] at h
              refine px_D_iast (k := 15) (n := 32) rfl rfl hc15 ?_
              refine px_D_st 2 (ip1 := 4) (ls1 := [(5, .inl (px_wr (x5 + 1))), (4, .inl (px_wr (x4 + (-1)))), (6, .inl (s 19 x5.toNat)), (0, .inr (.inr 14)), (2, .inl (x2)), (3, .inr (.inr 46))]) (st1 := []) (h1 := (px_G1, px_up s 20 (px_wr ((px_wr (x4 + (-1))) - 1)).toNat q14)) rfl ?_
              refine px_D_ls [(0, .inr (.inr 14)), (2, .inl (x2)), (3, .inr (.inr 46)), (4, .inl (px_wr (x4 + (-1)))), (5, .inl (px_wr (x5 + 1)))] rfl rfl (List.forall_mem_cons.mpr ⟨rfl, List.forall_mem_cons.mpr ⟨rfl, List.forall_mem_cons.mpr ⟨rfl, List.forall_mem_cons.mpr ⟨rfl, List.forall_mem_cons.mpr ⟨rfl, fun _ h => absurd h List.not_mem_nil⟩⟩⟩⟩⟩) ?_
              exact ih _ _ _ _ _ h
          · have hc10 : (s 19 x5.toNat) = (272) := Decidable.of_not_not (of_decide_eq_false hc)
            rw [if_pos hc10] at h
            refine px_D_st 1 (ip1 := 47) (ls1 := [(6, .inl (s 19 x5.toNat)), (0, .inr (.inr 14)), (2, .inl (x2)), (3, .inr (.inr 46)), (4, .inl (x4)), (5, .inl (x5))]) (st1 := [.inl (x4)]) (h1 := (px_G1, s)) rfl ?_
            refine px_D_ifc rfl (fun hc => ?_) (fun hc => ?_)
            · have hc16 : (x4) ≤ (0) := of_decide_eq_true hc
              rw [if_pos hc16] at h
              refine px_D_st 2 (ip1 := 4) (ls1 := [(5, .inl (px_wr (x5 + 1))), (6, .inl (s 19 x5.toNat)), (0, .inr (.inr 14)), (2, .inl (x2)), (3, .inr (.inr 46)), (4, .inl (x4))]) (st1 := []) (h1 := (px_G1, s)) rfl ?_
              refine px_D_ls [(0, .inr (.inr 14)), (2, .inl (x2)), (3, .inr (.inr 46)), (4, .inl (x4)), (5, .inl (px_wr (x5 + 1)))] rfl rfl (List.forall_mem_cons.mpr ⟨rfl, List.forall_mem_cons.mpr ⟨rfl, List.forall_mem_cons.mpr ⟨rfl, List.forall_mem_cons.mpr ⟨rfl, List.forall_mem_cons.mpr ⟨rfl, fun _ h => absurd h List.not_mem_nil⟩⟩⟩⟩⟩) ?_
              exact ih _ _ _ _ _ h
            · have hc16 : ¬ ((x4) ≤ (0)) := of_decide_eq_false hc
              rw [if_neg hc16] at h
              refine px_D_st 11 (ip1 := 59) (ls1 := [(6, .inl (s 19 x5.toNat)), (0, .inr (.inr 14)), (2, .inl (x2)), (3, .inr (.inr 46)), (4, .inl (x4)), (5, .inl (x5))]) (st1 := [.inl (px_wr (x4 - 1)), .inr (.inr 20), .inl (1), .inl (px_wr (x4 - 1)), .inr (.inr 20)]) (h1 := (px_G1, s)) rfl ?_
              by_cases hc17 : 0 ≤ (px_wr (x4 - 1)) ∧ (px_wr (x4 - 1)) < 32
              case neg => rw [if_neg hc17] at h; cases h
              rw [if_pos hc17] at h
              refine px_D_iald (k := 15) (n := 32) rfl rfl hc17 ?_
              refine px_D_st 1 (ip1 := 61) (ls1 := [(6, .inl (s 19 x5.toNat)), (0, .inr (.inr 14)), (2, .inl (x2)), (3, .inr (.inr 46)), (4, .inl (x4)), (5, .inl (x5))]) (st1 := [.inl (px_wr (1 - (s 20 (px_wr (x4 - 1)).toNat))), .inl (px_wr (x4 - 1)), .inr (.inr 20)]) (h1 := (px_G1, s)) rfl ?_
              by_cases hc18 : 0 ≤ (px_wr (x4 - 1)) ∧ (px_wr (x4 - 1)) < 32
              case neg => rw [if_neg hc18] at h; cases h
              rw [if_pos hc18] at h
              refine px_D_iast (k := 15) (n := 32) rfl rfl hc18 ?_
              refine px_D_st 3 (ip1 := 4) (ls1 := [(5, .inl (px_wr (x5 + 1))), (6, .inl (s 19 x5.toNat)), (0, .inr (.inr 14)), (2, .inl (x2)), (3, .inr (.inr 46)), (4, .inl (x4))]) (st1 := []) (h1 := (px_G1, px_up s 20 (px_wr (x4 - 1)).toNat (px_wr (1 - (s 20 (px_wr (x4 - 1)).toNat))))) rfl ?_
              refine px_D_ls [(0, .inr (.inr 14)), (2, .inl (x2)), (3, .inr (.inr 46)), (4, .inl (x4)), (5, .inl (px_wr (x5 + 1)))] rfl rfl (List.forall_mem_cons.mpr ⟨rfl, List.forall_mem_cons.mpr ⟨rfl, List.forall_mem_cons.mpr ⟨rfl, List.forall_mem_cons.mpr ⟨rfl, List.forall_mem_cons.mpr ⟨rfl, fun _ h => absurd h List.not_mem_nil⟩⟩⟩⟩⟩) ?_
              exact ih _ _ _ _ _ h
        · have hc9 : ¬ ((f_R_within s (s 19 x5.toNat) 256 264) = (0)) := of_decide_eq_false hc
          rw [if_neg hc9] at h
          refine px_D_st 4 (ip1 := 24) (ls1 := [(6, .inl (s 19 x5.toNat)), (0, .inr (.inr 14)), (2, .inl (x2)), (3, .inr (.inr 46)), (4, .inl (x4)), (5, .inl (x5))]) (st1 := [.inl (32), .inl (x4)]) (h1 := (px_G1, s)) rfl ?_
          refine px_D_icmp rfl (fun hc => ?_) (fun hc => ?_)
          · have hc19 : (32) ≤ (x4) := of_decide_eq_true hc
            rw [if_pos hc19] at h
            refine px_D_st 2 (ip1 := 4) (ls1 := [(5, .inl (px_wr (x5 + 1))), (6, .inl (s 19 x5.toNat)), (0, .inr (.inr 14)), (2, .inl (x2)), (3, .inr (.inr 46)), (4, .inl (x4))]) (st1 := []) (h1 := (px_G1, s)) rfl ?_
            refine px_D_ls [(0, .inr (.inr 14)), (2, .inl (x2)), (3, .inr (.inr 46)), (4, .inl (x4)), (5, .inl (px_wr (x5 + 1)))] rfl rfl (List.forall_mem_cons.mpr ⟨rfl, List.forall_mem_cons.mpr ⟨rfl, List.forall_mem_cons.mpr ⟨rfl, List.forall_mem_cons.mpr ⟨rfl, List.forall_mem_cons.mpr ⟨rfl, fun _ h => absurd h List.not_mem_nil⟩⟩⟩⟩⟩) ?_
            exact ih _ _ _ _ _ h
          · have hc19 : ¬ ((32) ≤ (x4)) := of_decide_eq_false hc
            rw [if_neg hc19] at h
            refine px_D_st 5 (ip1 := 30) (ls1 := [(6, .inl (s 19 x5.toNat)), (0, .inr (.inr 14)), (2, .inl (x2)), (3, .inr (.inr 46)), (4, .inl (x4)), (5, .inl (x5))]) (st1 := [.inl (1000), .inl (s 19 x5.toNat), .inl (x4), .inr (.inr 20)]) (h1 := (px_G1, s)) rfl ?_
            refine px_D_icmp rfl (fun hc => ?_) (fun hc => ?_)
            · have hc20 : (s 19 x5.toNat) < (1000) := of_decide_eq_true hc
              rw [if_pos hc20] at h
              refine px_D_st 4 (ip1 := 39) (ls1 := [(6, .inl (s 19 x5.toNat)), (0, .inr (.inr 14)), (2, .inl (x2)), (3, .inr (.inr 46)), (4, .inl (x4)), (5, .inl (x5))]) (st1 := [.inl (px_wr ((s 19 x5.toNat) - 256)), .inr (.inr 46), .inl (x4), .inr (.inr 20)]) (h1 := (px_G1, s)) rfl ?_
              by_cases hc21 : 0 ≤ (px_wr ((s 19 x5.toNat) - 256)) ∧ (px_wr ((s 19 x5.toNat) - 256)) < 9
              case neg => rw [if_neg hc21] at h; cases h
              rw [if_pos hc21] at h
              refine px_D_iald (k := 41) (n := 9) rfl rfl hc21 ?_
              by_cases hc22 : 0 ≤ (x4) ∧ (x4) < 32
              case neg => rw [if_neg hc22] at h; cases h
              rw [if_pos hc22] at h
              refine px_D_iast (k := 15) (n := 32) rfl rfl hc22 ?_
              refine px_D_st 4 (ip1 := 4) (ls1 := [(5, .inl (px_wr (x5 + 1))), (4, .inl (px_wr (x4 + 1))), (6, .inl (s 19 x5.toNat)), (0, .inr (.inr 14)), (2, .inl (x2)), (3, .inr (.inr 46))]) (st1 := []) (h1 := (px_G1, px_up s 20 x4.toNat (s 46 (px_wr ((s 19 x5.toNat) - 256)).toNat))) rfl ?_
              refine px_D_ls [(0, .inr (.inr 14)), (2, .inl (x2)), (3, .inr (.inr 46)), (4, .inl (px_wr (x4 + 1))), (5, .inl (px_wr (x5 + 1)))] rfl rfl (List.forall_mem_cons.mpr ⟨rfl, List.forall_mem_cons.mpr ⟨rfl, List.forall_mem_cons.mpr ⟨rfl, List.forall_mem_cons.mpr ⟨rfl, List.forall_mem_cons.mpr ⟨rfl, fun _ h => absurd h List.not_mem_nil⟩⟩⟩⟩⟩) ?_
              exact ih _ _ _ _ _ h
            · have hc20 : ¬ ((s 19 x5.toNat) < (1000)) := of_decide_eq_false hc
              rw [if_neg hc20] at h
              refine px_D_st 4 (ip1 := 40) (ls1 := [(6, .inl (s 19 x5.toNat)), (0, .inr (.inr 14)), (2, .inl (x2)), (3, .inr (.inr 46)), (4, .inl (x4)), (5, .inl (x5))]) (st1 := [.inl (px_wr ((s 19 x5.toNat) - 1000)), .inl (x4), .inr (.inr 20)]) (h1 := (px_G1, s)) rfl ?_
              by_cases hc23 : 0 ≤ (x4) ∧ (x4) < 32
              case neg => rw [if_neg hc23] at h; cases h
              rw [if_pos hc23] at h
              refine px_D_iast (k := 15) (n := 32) rfl rfl hc23 ?_
              refine px_D_st 4 (ip1 := 4) (ls1 := [(5, .inl (px_wr (x5 + 1))), (4, .inl (px_wr (x4 + 1))), (6, .inl (s 19 x5.toNat)), (0, .inr (.inr 14)), (2, .inl (x2)), (3, .inr (.inr 46))]) (st1 := []) (h1 := (px_G1, px_up s 20 x4.toNat (px_wr ((s 19 x5.toNat) - 1000)))) rfl ?_
              refine px_D_ls [(0, .inr (.inr 14)), (2, .inl (x2)), (3, .inr (.inr 46)), (4, .inl (px_wr (x4 + 1))), (5, .inl (px_wr (x5 + 1)))] rfl rfl (List.forall_mem_cons.mpr ⟨rfl, List.forall_mem_cons.mpr ⟨rfl, List.forall_mem_cons.mpr ⟨rfl, List.forall_mem_cons.mpr ⟨rfl, List.forall_mem_cons.mpr ⟨rfl, fun _ h => absurd h List.not_mem_nil⟩⟩⟩⟩⟩) ?_
              exact ih _ _ _ _ _ h
def f_Law_run (s : px_Z) (x1 : Int) (x2 : Int) : Option (Int × px_Z) := l_Law_run_4 (fun s x4 => if (x4) ≤ (0) then some (0, s) else (if 0 ≤ (px_wr (x4 - 1)) ∧ (px_wr (x4 - 1)) < 32 then some ((s 20 (px_wr (x4 - 1)).toNat, s)) else none)) px_big s x2 0 x1
set_option maxHeartbeats 4000000 in
set_option maxRecDepth 100000 in
theorem c_Law_run {sc : List Int} {d : Nat} {s : px_Z} {x1 : Int} {x2 : Int} {out : Int × px_Z} (h : f_Law_run s x1 x2 = some out) : px_D sc (d + 1) 18 0 [(0, .inr (.inr 14)), (1, .inl (x1)), (2, .inl (x2)), (3, .inr (.inr 46))] [] (px_G1, s) (px_Qi out) := by
  unfold f_Law_run at h
  refine px_D_st 4 (ip1 := 4) (ls1 := [(5, .inl (x1)), (4, .inl (0)), (0, .inr (.inr 14)), (1, .inl (x1)), (2, .inl (x2)), (3, .inr (.inr 46))]) (st1 := []) (h1 := (px_G1, s)) rfl ?_
  refine px_D_ls [(0, .inr (.inr 14)), (2, .inl (x2)), (3, .inr (.inr 46)), (4, .inl (0)), (5, .inl (x1))] rfl rfl (List.forall_mem_cons.mpr ⟨rfl, List.forall_mem_cons.mpr ⟨rfl, List.forall_mem_cons.mpr ⟨rfl, List.forall_mem_cons.mpr ⟨rfl, List.forall_mem_cons.mpr ⟨rfl, fun _ h => absurd h List.not_mem_nil⟩⟩⟩⟩⟩) ?_
  refine cl_Law_run_4 ?_ px_big _ _ _ _ _ h
  · intro s x4 out h
    refine px_D_st 1 (ip1 := 88) (ls1 := [(0, .inr (.inr 14)), (4, .inl (x4))]) (st1 := [.inl (x4)]) (h1 := (px_G1, s)) rfl ?_
    refine px_D_ifc rfl (fun hc => ?_) (fun hc => ?_)
    · have hc24 : (x4) ≤ (0) := of_decide_eq_true hc
      rw [if_pos hc24] at h
      refine px_D_st 1 (ip1 := 97) (ls1 := [(0, .inr (.inr 14)), (4, .inl (x4))]) (st1 := [.inl (0)]) (h1 := (px_G1, s)) rfl ?_
      cases h
      exact px_D_iret rfl rfl ⟨rfl, rfl⟩
    · have hc24 : ¬ ((x4) ≤ (0)) := of_decide_eq_false hc
      rw [if_neg hc24] at h
      refine px_D_st 5 (ip1 := 94) (ls1 := [(0, .inr (.inr 14)), (4, .inl (x4))]) (st1 := [.inl (px_wr (x4 - 1)), .inr (.inr 20)]) (h1 := (px_G1, s)) rfl ?_
      by_cases hc25 : 0 ≤ (px_wr (x4 - 1)) ∧ (px_wr (x4 - 1)) < 32
      case neg => rw [if_neg hc25] at h; cases h
      rw [if_pos hc25] at h
      refine px_D_iald (k := 15) (n := 32) rfl rfl hc25 ?_
      refine px_D_st 1 (ip1 := 97) (ls1 := [(0, .inr (.inr 14)), (4, .inl (x4))]) (st1 := [.inl (s 20 (px_wr (x4 - 1)).toNat)]) (h1 := (px_G1, s)) rfl ?_
      cases h
      exact px_D_iret rfl rfl ⟨rfl, rfl⟩

def l_Law_value_2 (k33 : px_Z → Int → Option (Int × px_Z)) : Nat → px_Z → Int → Int → Int → Option (Int × px_Z)
  | 0, _, _, _, _ => none
  | n + 1, s, x1, x3, x4 => if (s 14 0) ≤ (x4) then some (x3, s) else (if 0 ≤ (x4) ∧ (x4) < 16 then if (s 15 x4.toNat) = (x1) then (if 0 ≤ (x4) ∧ (x4) < 16 then if 0 ≤ (x4) ∧ (x4) < 16 then if (s 17 x4.toNat) = (s 18 x4.toNat) then k33 s x4 else (if 0 ≤ (x4) ∧ (x4) < 16 then if 0 ≤ (x4) ∧ (x4) < 16 then (f_Law_run s (s 17 x4.toNat) (s 18 x4.toNat)).bind (fun q9 => if (q9.1) = (0) then l_Law_value_2 k33 n q9.2 x1 x3 (px_wr (x4 + 1)) else k33 q9.2 x4) else none else none) else none else none) else l_Law_value_2 k33 n s x1 x3 (px_wr (x4 + 1)) else none)
set_option maxHeartbeats 4000000 in
set_option maxRecDepth 100000 in
theorem cl_Law_value_2 {sc : List Int} {d : Nat} {k33 : px_Z → Int → Option (Int × px_Z)}  (hk33 : ∀ (s : px_Z) (y4 : Int) (out : Int × px_Z), k33 s y4 = some out → px_D sc (d + 2) 17 33 [(0, .inr (.inr 14)), (2, .inr (.inr 46)), (4, .inl (y4))] [] (px_G1, s) (px_Qi out)) : ∀ (n : Nat) (s : px_Z) (x1 : Int) (x3 : Int) (x4 : Int) (out : Int × px_Z), l_Law_value_2 k33 n s x1 x3 x4 = some out → px_D sc (d + 2) 17 2 [(0, .inr (.inr 14)), (1, .inl (x1)), (2, .inr (.inr 46)), (3, .inl (x3)), (4, .inl (x4))] [] (px_G1, s) (px_Qi out) := by
  intro n
  induction n with
  | zero => intro s x1 x3 x4 out h; cases h
  | succ n ih =>
    intro s x1 x3 x4 out h
    rw [l_Law_value_2] at h
    refine px_D_st 3 (ip1 := 5) (ls1 := [(0, .inr (.inr 14)), (1, .inl (x1)), (2, .inr (.inr 46)), (3, .inl (x3)), (4, .inl (x4))]) (st1 := [.inl (s 14 0), .inl (x4)]) (h1 := (px_G1, s)) rfl ?_
    refine px_D_icmp rfl (fun hc => ?_) (fun hc => ?_)
    · have hc1 : (s 14 0) ≤ (x4) := of_decide_eq_true hc
      rw [if_pos hc1] at h
      refine px_D_st 1 (ip1 := 48) (ls1 := [(0, .inr (.inr 14)), (1, .inl (x1)), (2, .inr (.inr 46)), (3, .inl (x3)), (4, .inl (x4))]) (st1 := [.inl (x3)]) (h1 := (px_G1, s)) rfl ?_
      cases h
      exact px_D_iret rfl rfl ⟨rfl, rfl⟩
    · have hc1 : ¬ ((s 14 0) ≤ (x4)) := of_decide_eq_false hc
      rw [if_neg hc1] at h
      refine px_D_st 3 (ip1 := 9) (ls1 := [(0, .inr (.inr 14)), (1, .inl (x1)), (2, .inr (.inr 46)), (3, .inl (x3)), (4, .inl (x4))]) (st1 := [.inl (x4), .inr (.inr 15)]) (h1 := (px_G1, s)) rfl ?_
      by_cases hc2 : 0 ≤ (x4) ∧ (x4) < 16
      case neg => rw [if_neg hc2] at h; cases h
      rw [if_pos hc2] at h
      refine px_D_iald (k := 10) (n := 16) rfl rfl hc2 ?_
      refine px_D_st 1 (ip1 := 11) (ls1 := [(0, .inr (.inr 14)), (1, .inl (x1)), (2, .inr (.inr 46)), (3, .inl (x3)), (4, .inl (x4))]) (st1 := [.inl (x1), .inl (s 15 x4.toNat)]) (h1 := (px_G1, s)) rfl ?_
      refine px_D_icmp rfl (fun hc => ?_) (fun hc => ?_)
      · have hc3 : ¬ ((s 15 x4.toNat) = (x1)) := of_decide_eq_true hc
        rw [if_neg hc3] at h
        refine px_D_st 2 (ip1 := 2) (ls1 := [(4, .inl (px_wr (x4 + 1))), (0, .inr (.inr 14)), (1, .inl (x1)), (2, .inr (.inr 46)), (3, .inl (x3))]) (st1 := []) (h1 := (px_G1, s)) rfl ?_
        refine px_D_ls [(0, .inr (.inr 14)), (1, .inl (x1)), (2, .inr (.inr 46)), (3, .inl (x3)), (4, .inl (px_wr (x4 + 1)))] rfl rfl (List.forall_mem_cons.mpr ⟨rfl, List.forall_mem_cons.mpr ⟨rfl, List.forall_mem_cons.mpr ⟨rfl, List.forall_mem_cons.mpr ⟨rfl, List.forall_mem_cons.mpr ⟨rfl, fun _ h => absurd h List.not_mem_nil⟩⟩⟩⟩⟩) ?_
        exact ih _ _ _ _ _ h
      · have hc3 : (s 15 x4.toNat) = (x1) := Decidable.of_not_not (of_decide_eq_false hc)
        rw [if_pos hc3] at h
        refine px_D_st 3 (ip1 := 15) (ls1 := [(0, .inr (.inr 14)), (1, .inl (x1)), (2, .inr (.inr 46)), (3, .inl (x3)), (4, .inl (x4))]) (st1 := [.inl (x4), .inr (.inr 17)]) (h1 := (px_G1, s)) rfl ?_
        by_cases hc4 : 0 ≤ (x4) ∧ (x4) < 16
        case neg => rw [if_neg hc4] at h; cases h
        rw [if_pos hc4] at h
        refine px_D_iald (k := 12) (n := 16) rfl rfl hc4 ?_
        refine px_D_st 3 (ip1 := 19) (ls1 := [(0, .inr (.inr 14)), (1, .inl (x1)), (2, .inr (.inr 46)), (3, .inl (x3)), (4, .inl (x4))]) (st1 := [.inl (x4), .inr (.inr 18), .inl (s 17 x4.toNat)]) (h1 := (px_G1, s)) rfl ?_
        by_cases hc5 : 0 ≤ (x4) ∧ (x4) < 16
        case neg => rw [if_neg hc5] at h; cases h
        rw [if_pos hc5] at h
        refine px_D_iald (k := 13) (n := 16) rfl rfl hc5 ?_
        refine px_D_icmp rfl (fun hc => ?_) (fun hc => ?_)
        · have hc6 : (s 17 x4.toNat) = (s 18 x4.toNat) := of_decide_eq_true hc
          rw [if_pos hc6] at h
          refine px_D_ls [(0, .inr (.inr 14)), (2, .inr (.inr 46)), (4, .inl (x4))] rfl rfl (List.forall_mem_cons.mpr ⟨rfl, List.forall_mem_cons.mpr ⟨rfl, List.forall_mem_cons.mpr ⟨rfl, fun _ h => absurd h List.not_mem_nil⟩⟩⟩) ?_
          exact hk33 _ _ _ h
        · have hc6 : ¬ ((s 17 x4.toNat) = (s 18 x4.toNat)) := of_decide_eq_false hc
          rw [if_neg hc6] at h
          refine px_D_st 4 (ip1 := 25) (ls1 := [(0, .inr (.inr 14)), (1, .inl (x1)), (2, .inr (.inr 46)), (3, .inl (x3)), (4, .inl (x4))]) (st1 := [.inl (x4), .inr (.inr 17), .inr (.inr 14)]) (h1 := (px_G1, s)) rfl ?_
          by_cases hc7 : 0 ≤ (x4) ∧ (x4) < 16
          case neg => rw [if_neg hc7] at h; cases h
          rw [if_pos hc7] at h
          refine px_D_iald (k := 12) (n := 16) rfl rfl hc7 ?_
          refine px_D_st 3 (ip1 := 29) (ls1 := [(0, .inr (.inr 14)), (1, .inl (x1)), (2, .inr (.inr 46)), (3, .inl (x3)), (4, .inl (x4))]) (st1 := [.inl (x4), .inr (.inr 18), .inl (s 17 x4.toNat), .inr (.inr 14)]) (h1 := (px_G1, s)) rfl ?_
          by_cases hc8 : 0 ≤ (x4) ∧ (x4) < 16
          case neg => rw [if_neg hc8] at h; cases h
          rw [if_pos hc8] at h
          refine px_D_iald (k := 13) (n := 16) rfl rfl hc8 ?_
          refine px_D_st 1 (ip1 := 31) (ls1 := [(0, .inr (.inr 14)), (1, .inl (x1)), (2, .inr (.inr 46)), (3, .inl (x3)), (4, .inl (x4))]) (st1 := [.inr (.inr 46), .inl (s 18 x4.toNat), .inl (s 17 x4.toNat), .inr (.inr 14)]) (h1 := (px_G1, s)) rfl ?_
          refine px_D_call (as := [.inr (.inr 14), .inl (s 17 x4.toNat), .inl (s 18 x4.toNat), .inr (.inr 46)]) (rest := []) rfl rfl rfl rfl ?_
          obtain ⟨q9, hq9, h⟩ := Option.bind_eq_some_iff.mp h
          refine px_D_mono (c_Law_run (d := d + 0) hq9) ?_
          rintro _ _ ⟨rfl, rfl⟩
          show px_D sc (d + 2) 17 32 [(0, .inr (.inr 14)), (1, .inl (x1)), (2, .inr (.inr 46)), (3, .inl (x3)), (4, .inl (x4))] [.inl (q9.1)] (px_G1, q9.2) _
          refine px_D_ifc rfl (fun hc => ?_) (fun hc => ?_)
          · have hc10 : (q9.1) = (0) := of_decide_eq_true hc
            rw [if_pos hc10] at h
            refine px_D_st 2 (ip1 := 2) (ls1 := [(4, .inl (px_wr (x4 + 1))), (0, .inr (.inr 14)), (1, .inl (x1)), (2, .inr (.inr 46)), (3, .inl (x3))]) (st1 := []) (h1 := (px_G1, q9.2)) rfl ?_
            refine px_D_ls [(0, .inr (.inr 14)), (1, .inl (x1)), (2, .inr (.inr 46)), (3, .inl (x3)), (4, .inl (px_wr (x4 + 1)))] rfl rfl (List.forall_mem_cons.mpr ⟨rfl, List.forall_mem_cons.mpr ⟨rfl, List.forall_mem_cons.mpr ⟨rfl, List.forall_mem_cons.mpr ⟨rfl, List.forall_mem_cons.mpr ⟨rfl, fun _ h => absurd h List.not_mem_nil⟩⟩⟩⟩⟩) ?_
            exact ih _ _ _ _ _ h
          · have hc10 : ¬ ((q9.1) = (0)) := of_decide_eq_false hc
            rw [if_neg hc10] at h
            refine px_D_ls [(0, .inr (.inr 14)), (2, .inr (.inr 46)), (4, .inl (x4))] rfl rfl (List.forall_mem_cons.mpr ⟨rfl, List.forall_mem_cons.mpr ⟨rfl, List.forall_mem_cons.mpr ⟨rfl, fun _ h => absurd h List.not_mem_nil⟩⟩⟩) ?_
            exact hk33 _ _ _ h
def j_Law_value_j33 (s : px_Z) (x4 : Int) : Option (Int × px_Z) := if 0 ≤ (x4) ∧ (x4) < 16 then if 0 ≤ (x4) ∧ (x4) < 16 then (f_Law_run s (s 16 x4.toNat) (s 17 x4.toNat)).bind (fun q13 => some (q13.1, q13.2)) else none else none
set_option maxHeartbeats 4000000 in
set_option maxRecDepth 100000 in
theorem cj_Law_value_j33 {sc : List Int} {d : Nat} {s : px_Z} {x4 : Int} {out : Int × px_Z} (h : j_Law_value_j33 s x4 = some out) : px_D sc (d + 2) 17 33 [(0, .inr (.inr 14)), (2, .inr (.inr 46)), (4, .inl (x4))] [] (px_G1, s) (px_Qi out) := by
  unfold j_Law_value_j33 at h
  refine px_D_st 4 (ip1 := 37) (ls1 := [(0, .inr (.inr 14)), (2, .inr (.inr 46)), (4, .inl (x4))]) (st1 := [.inl (x4), .inr (.inr 16), .inr (.inr 14)]) (h1 := (px_G1, s)) rfl ?_
  by_cases hc11 : 0 ≤ (x4) ∧ (x4) < 16
  case neg => rw [if_neg hc11] at h; cases h
  rw [if_pos hc11] at h
  refine px_D_iald (k := 11) (n := 16) rfl rfl hc11 ?_
  refine px_D_st 3 (ip1 := 41) (ls1 := [(0, .inr (.inr 14)), (2, .inr (.inr 46)), (4, .inl (x4))]) (st1 := [.inl (x4), .inr (.inr 17), .inl (s 16 x4.toNat), .inr (.inr 14)]) (h1 := (px_G1, s)) rfl ?_
  by_cases hc12 : 0 ≤ (x4) ∧ (x4) < 16
  case neg => rw [if_neg hc12] at h; cases h
  rw [if_pos hc12] at h
  refine px_D_iald (k := 12) (n := 16) rfl rfl hc12 ?_
  refine px_D_st 1 (ip1 := 43) (ls1 := [(0, .inr (.inr 14)), (2, .inr (.inr 46)), (4, .inl (x4))]) (st1 := [.inr (.inr 46), .inl (s 17 x4.toNat), .inl (s 16 x4.toNat), .inr (.inr 14)]) (h1 := (px_G1, s)) rfl ?_
  refine px_D_call (as := [.inr (.inr 14), .inl (s 16 x4.toNat), .inl (s 17 x4.toNat), .inr (.inr 46)]) (rest := []) rfl rfl rfl rfl ?_
  obtain ⟨q13, hq13, h⟩ := Option.bind_eq_some_iff.mp h
  refine px_D_mono (c_Law_run (d := d + 0) hq13) ?_
  rintro _ _ ⟨rfl, rfl⟩
  show px_D sc (d + 2) 17 44 [(0, .inr (.inr 14)), (2, .inr (.inr 46)), (4, .inl (x4))] [.inl (q13.1)] (px_G1, q13.2) _
  cases h
  exact px_D_iret rfl rfl ⟨rfl, rfl⟩
def f_Law_value (s : px_Z) (x1 : Int) (x3 : Int) : Option (Int × px_Z) := l_Law_value_2 (fun s x4 => j_Law_value_j33 s x4) px_big s x1 x3 0
set_option maxHeartbeats 4000000 in
set_option maxRecDepth 100000 in
theorem c_Law_value {sc : List Int} {d : Nat} {s : px_Z} {x1 : Int} {x3 : Int} {out : Int × px_Z} (h : f_Law_value s x1 x3 = some out) : px_D sc (d + 2) 17 0 [(0, .inr (.inr 14)), (1, .inl (x1)), (2, .inr (.inr 46)), (3, .inl (x3))] [] (px_G1, s) (px_Qi out) := by
  unfold f_Law_value at h
  refine px_D_st 2 (ip1 := 2) (ls1 := [(4, .inl (0)), (0, .inr (.inr 14)), (1, .inl (x1)), (2, .inr (.inr 46)), (3, .inl (x3))]) (st1 := []) (h1 := (px_G1, s)) rfl ?_
  refine px_D_ls [(0, .inr (.inr 14)), (1, .inl (x1)), (2, .inr (.inr 46)), (3, .inl (x3)), (4, .inl (0))] rfl rfl (List.forall_mem_cons.mpr ⟨rfl, List.forall_mem_cons.mpr ⟨rfl, List.forall_mem_cons.mpr ⟨rfl, List.forall_mem_cons.mpr ⟨rfl, List.forall_mem_cons.mpr ⟨rfl, fun _ h => absurd h List.not_mem_nil⟩⟩⟩⟩⟩) ?_
  refine cl_Law_value_2 ?_ px_big _ _ _ _ _ h
  · intro s x4 out h
    refine px_D_ls [(0, .inr (.inr 14)), (2, .inr (.inr 46)), (4, .inl (x4))] rfl rfl (List.forall_mem_cons.mpr ⟨rfl, List.forall_mem_cons.mpr ⟨rfl, List.forall_mem_cons.mpr ⟨rfl, fun _ h => absurd h List.not_mem_nil⟩⟩⟩) ?_
    exact cj_Law_value_j33 h

def f_Math_max (s : px_Z) (x0 : Int) (x1 : Int) : Int := if (x0) < (x1) then x1 else x0
set_option maxHeartbeats 4000000 in
set_option maxRecDepth 100000 in
theorem c_Math_max {sc : List Int} {d : Nat} {s : px_Z} {x0 : Int} {x1 : Int} {out : Int} (h : f_Math_max s x0 x1 = out) : px_D sc (d + 0) 285 0 [(0, .inl (x0)), (1, .inl (x1))] [] (px_G1, s) (px_Qp s out) := by
  unfold f_Math_max at h
  refine px_D_st 2 (ip1 := 2) (ls1 := [(0, .inl (x0)), (1, .inl (x1))]) (st1 := [.inl (x1), .inl (x0)]) (h1 := (px_G1, s)) rfl ?_
  refine px_D_icmp rfl (fun hc => ?_) (fun hc => ?_)
  · have hc1 : (x0) < (x1) := of_decide_eq_true hc
    rw [if_pos hc1] at h
    refine px_D_st 1 (ip1 := 6) (ls1 := [(0, .inl (x0)), (1, .inl (x1))]) (st1 := [.inl (x1)]) (h1 := (px_G1, s)) rfl ?_
    subst h
    exact px_D_iret rfl rfl ⟨rfl, rfl⟩
  · have hc1 : ¬ ((x0) < (x1)) := of_decide_eq_false hc
    rw [if_neg hc1] at h
    refine px_D_st 2 (ip1 := 6) (ls1 := [(0, .inl (x0)), (1, .inl (x1))]) (st1 := [.inl (x0)]) (h1 := (px_G1, s)) rfl ?_
    subst h
    exact px_D_iret rfl rfl ⟨rfl, rfl⟩

def f_R_held (s : px_Z) (x0 : Int) (x1 : Int) (x2 : Int) : Int := f_Math_max s x1 (f_Math_min s x2 x0)
set_option maxHeartbeats 4000000 in
set_option maxRecDepth 100000 in
theorem c_R_held {sc : List Int} {d : Nat} {s : px_Z} {x0 : Int} {x1 : Int} {x2 : Int} {out : Int} (h : f_R_held s x0 x1 x2 = out) : px_D sc (d + 1) 145 0 [(0, .inl (x0)), (1, .inl (x1)), (2, .inl (x2))] [] (px_G1, s) (px_Qp s out) := by
  unfold f_R_held at h
  refine px_D_st 3 (ip1 := 3) (ls1 := [(0, .inl (x0)), (1, .inl (x1)), (2, .inl (x2))]) (st1 := [.inl (x0), .inl (x2), .inl (x1)]) (h1 := (px_G1, s)) rfl ?_
  refine px_D_call (as := [.inl (x2), .inl (x0)]) (rest := [.inl (x1)]) rfl rfl rfl rfl ?_
  refine px_D_mono (c_Math_min (d := d + 0) rfl) ?_
  rintro _ _ ⟨rfl, rfl⟩
  show px_D sc (d + 1) 145 4 [(0, .inl (x0)), (1, .inl (x1)), (2, .inl (x2))] [.inl (f_Math_min s x2 x0), .inl (x1)] (px_G1, s) _
  refine px_D_call (as := [.inl (x1), .inl (f_Math_min s x2 x0)]) (rest := []) rfl rfl rfl rfl ?_
  refine px_D_mono (c_Math_max (d := d + 0) rfl) ?_
  rintro _ _ ⟨rfl, rfl⟩
  show px_D sc (d + 1) 145 5 [(0, .inl (x0)), (1, .inl (x1)), (2, .inl (x2))] [.inl (f_Math_max s x1 (f_Math_min s x2 x0))] (px_G1, s) _
  subst h
  exact px_D_iret rfl rfl ⟨rfl, rfl⟩

def f_World_giveThing (s : px_Z) (x1 : Int) (x2 : Int) : Option (px_Z) := if 0 ≤ (x1) ∧ (x1) < 8 then if 0 ≤ (x1) ∧ (x1) < 8 then if (x2) = (0) then some (px_up (px_up (px_up (px_up s 46 0 x1) 46 1 ((px_up s 46 0 x1) 12 x1.toNat)) 46 2 ((px_up (px_up s 46 0 x1) 46 1 ((px_up s 46 0 x1) 12 x1.toNat)) 8 x1.toNat)) 46 5 0) else some (px_up (px_up (px_up (px_up s 46 0 x1) 46 1 ((px_up s 46 0 x1) 12 x1.toNat)) 46 2 ((px_up (px_up s 46 0 x1) 46 1 ((px_up s 46 0 x1) 12 x1.toNat)) 8 x1.toNat)) 46 5 1) else none else none
set_option maxHeartbeats 4000000 in
set_option maxRecDepth 100000 in
theorem c_World_giveThing {sc : List Int} {d : Nat} {s : px_Z} {x1 : Int} {x2 : Int} {out : px_Z} (h : f_World_giveThing s x1 x2 = some out) : px_D sc (d + 0) 92 0 [(0, .inr (.inr 6)), (1, .inl (x1)), (2, .inl (x2))] [] (px_G1, s) (px_Qv out) := by
  unfold f_World_giveThing at h
  refine px_D_st 11 (ip1 := 11) (ls1 := [(0, .inr (.inr 6)), (1, .inl (x1)), (2, .inl (x2))]) (st1 := [.inl (x1), .inr (.inr 12), .inl (1), .inr (.inr 46)]) (h1 := (px_G1, px_up s 46 0 x1)) rfl ?_
  by_cases hc1 : 0 ≤ (x1) ∧ (x1) < 8
  case neg => rw [if_neg hc1] at h; cases h
  rw [if_pos hc1] at h
  refine px_D_iald (k := 7) (n := 8) rfl rfl hc1 ?_
  refine px_D_st 8 (ip1 := 20) (ls1 := [(0, .inr (.inr 6)), (1, .inl (x1)), (2, .inl (x2))]) (st1 := [.inl (x1), .inr (.inr 8), .inl (2), .inr (.inr 46)]) (h1 := (px_G1, px_up (px_up s 46 0 x1) 46 1 ((px_up s 46 0 x1) 12 x1.toNat))) rfl ?_
  by_cases hc2 : 0 ≤ (x1) ∧ (x1) < 8
  case neg => rw [if_neg hc2] at h; cases h
  rw [if_pos hc2] at h
  refine px_D_iald (k := 3) (n := 8) rfl rfl hc2 ?_
  refine px_D_st 5 (ip1 := 26) (ls1 := [(0, .inr (.inr 6)), (1, .inl (x1)), (2, .inl (x2))]) (st1 := [.inl (x2), .inl (5), .inr (.inr 46)]) (h1 := (px_G1, px_up (px_up (px_up s 46 0 x1) 46 1 ((px_up s 46 0 x1) 12 x1.toNat)) 46 2 ((px_up (px_up s 46 0 x1) 46 1 ((px_up s 46 0 x1) 12 x1.toNat)) 8 x1.toNat))) rfl ?_
  refine px_D_ifc rfl (fun hc => ?_) (fun hc => ?_)
  · have hc3 : (x2) = (0) := of_decide_eq_true hc
    rw [if_pos hc3] at h
    refine px_D_st 2 (ip1 := 31) (ls1 := [(0, .inr (.inr 6)), (1, .inl (x1)), (2, .inl (x2))]) (st1 := []) (h1 := (px_G1, px_up (px_up (px_up (px_up s 46 0 x1) 46 1 ((px_up s 46 0 x1) 12 x1.toNat)) 46 2 ((px_up (px_up s 46 0 x1) 46 1 ((px_up s 46 0 x1) 12 x1.toNat)) 8 x1.toNat)) 46 5 0)) rfl ?_
    cases h
    exact px_D_vret rfl ⟨rfl, rfl⟩
  · have hc3 : ¬ ((x2) = (0)) := of_decide_eq_false hc
    rw [if_neg hc3] at h
    refine px_D_st 3 (ip1 := 31) (ls1 := [(0, .inr (.inr 6)), (1, .inl (x1)), (2, .inl (x2))]) (st1 := []) (h1 := (px_G1, px_up (px_up (px_up (px_up s 46 0 x1) 46 1 ((px_up s 46 0 x1) 12 x1.toNat)) 46 2 ((px_up (px_up s 46 0 x1) 46 1 ((px_up s 46 0 x1) 12 x1.toNat)) 8 x1.toNat)) 46 5 1)) rfl ?_
    cases h
    exact px_D_vret rfl ⟨rfl, rfl⟩

def f_World_giveCommon (s : px_Z) (x1 : Int) (x2 : Int) (x3 : Int) : Option (px_Z) := some (px_up (px_up (px_up s 46 3 x1) 46 4 x2) 46 6 x3)
set_option maxHeartbeats 4000000 in
set_option maxRecDepth 100000 in
theorem c_World_giveCommon {sc : List Int} {d : Nat} {s : px_Z} {x1 : Int} {x2 : Int} {x3 : Int} {out : px_Z} (h : f_World_giveCommon s x1 x2 x3 = some out) : px_D sc (d + 0) 94 0 [(0, .inr (.inr 6)), (1, .inl (x1)), (2, .inl (x2)), (3, .inl (x3))] [] (px_G1, s) (px_Qv out) := by
  unfold f_World_giveCommon at h
  refine px_D_st 15 (ip1 := 15) (ls1 := [(0, .inr (.inr 6)), (1, .inl (x1)), (2, .inl (x2)), (3, .inl (x3))]) (st1 := []) (h1 := (px_G1, px_up (px_up (px_up s 46 3 x1) 46 4 x2) 46 6 x3)) rfl ?_
  cases h
  exact px_D_vret rfl ⟨rfl, rfl⟩

def f_World_priceThen (s : px_Z) (x1 : Int) (x2 : Int) (x3 : Int) (x4 : Int) (x5 : Int) : Option (Int × px_Z) := (f_World_giveThing s x1 x5).bind (fun q1 => (f_World_giveCommon q1 x2 (q1 7 3) (q1 7 2)).bind (fun q2 => if 0 ≤ (x1) ∧ (x1) < 8 then (f_Law_value (px_up (px_up q2 46 7 x3) 46 8 x4) 265 ((px_up (px_up q2 46 7 x3) 46 8 x4) 12 x1.toNat)).bind (fun q4 => some (f_R_held q4.2 q4.1 1 9999, q4.2)) else none))
set_option maxHeartbeats 4000000 in
set_option maxRecDepth 100000 in
theorem c_World_priceThen {sc : List Int} {d : Nat} {s : px_Z} {x1 : Int} {x2 : Int} {x3 : Int} {x4 : Int} {x5 : Int} {out : Int × px_Z} (h : f_World_priceThen s x1 x2 x3 x4 x5 = some out) : px_D sc (d + 3) 91 0 [(0, .inr (.inr 6)), (1, .inl (x1)), (2, .inl (x2)), (3, .inl (x3)), (4, .inl (x4)), (5, .inl (x5))] [] (px_G1, s) (px_Qi out) := by
  unfold f_World_priceThen at h
  refine px_D_st 3 (ip1 := 3) (ls1 := [(0, .inr (.inr 6)), (1, .inl (x1)), (2, .inl (x2)), (3, .inl (x3)), (4, .inl (x4)), (5, .inl (x5))]) (st1 := [.inl (x5), .inl (x1), .inr (.inr 6)]) (h1 := (px_G1, s)) rfl ?_
  refine px_D_call (as := [.inr (.inr 6), .inl (x1), .inl (x5)]) (rest := []) rfl rfl rfl rfl ?_
  obtain ⟨q1, hq1, h⟩ := Option.bind_eq_some_iff.mp h
  refine px_D_mono (c_World_giveThing (d := d + 2) hq1) ?_
  rintro _ _ ⟨rfl, rfl⟩
  show px_D sc (d + 3) 91 4 [(0, .inr (.inr 6)), (1, .inl (x1)), (2, .inl (x2)), (3, .inl (x3)), (4, .inl (x4)), (5, .inl (x5))] [] (px_G1, q1) _
  refine px_D_st 8 (ip1 := 12) (ls1 := [(0, .inr (.inr 6)), (1, .inl (x1)), (2, .inl (x2)), (3, .inl (x3)), (4, .inl (x4)), (5, .inl (x5))]) (st1 := [.inl (q1 7 2), .inl (q1 7 3), .inl (x2), .inr (.inr 6)]) (h1 := (px_G1, q1)) rfl ?_
  refine px_D_call (as := [.inr (.inr 6), .inl (x2), .inl (q1 7 3), .inl (q1 7 2)]) (rest := []) rfl rfl rfl rfl ?_
  obtain ⟨q2, hq2, h⟩ := Option.bind_eq_some_iff.mp h
  refine px_D_mono (c_World_giveCommon (d := d + 2) hq2) ?_
  rintro _ _ ⟨rfl, rfl⟩
  show px_D sc (d + 3) 91 13 [(0, .inr (.inr 6)), (1, .inl (x1)), (2, .inl (x2)), (3, .inl (x3)), (4, .inl (x4)), (5, .inl (x5))] [] (px_G1, q2) _
  refine px_D_st 18 (ip1 := 31) (ls1 := [(0, .inr (.inr 6)), (1, .inl (x1)), (2, .inl (x2)), (3, .inl (x3)), (4, .inl (x4)), (5, .inl (x5))]) (st1 := [.inl (x1), .inr (.inr 12), .inr (.inr 46), .inl (265), .inr (.inr 14)]) (h1 := (px_G1, px_up (px_up q2 46 7 x3) 46 8 x4)) rfl ?_
  by_cases hc3 : 0 ≤ (x1) ∧ (x1) < 8
  case neg => rw [if_neg hc3] at h; cases h
  rw [if_pos hc3] at h
  refine px_D_iald (k := 7) (n := 8) rfl rfl hc3 ?_
  refine px_D_call (as := [.inr (.inr 14), .inl (265), .inr (.inr 46), .inl ((px_up (px_up q2 46 7 x3) 46 8 x4) 12 x1.toNat)]) (rest := []) rfl rfl rfl rfl ?_
  obtain ⟨q4, hq4, h⟩ := Option.bind_eq_some_iff.mp h
  refine px_D_mono (c_Law_value (d := d + 0) hq4) ?_
  rintro _ _ ⟨rfl, rfl⟩
  show px_D sc (d + 3) 91 33 [(0, .inr (.inr 6)), (1, .inl (x1)), (2, .inl (x2)), (3, .inl (x3)), (4, .inl (x4)), (5, .inl (x5))] [.inl (q4.1)] (px_G1, q4.2) _
  refine px_D_st 2 (ip1 := 35) (ls1 := [(0, .inr (.inr 6)), (1, .inl (x1)), (2, .inl (x2)), (3, .inl (x3)), (4, .inl (x4)), (5, .inl (x5))]) (st1 := [.inl (9999), .inl (1), .inl (q4.1)]) (h1 := (px_G1, q4.2)) rfl ?_
  refine px_D_call (as := [.inl (q4.1), .inl (1), .inl (9999)]) (rest := []) rfl rfl rfl rfl ?_
  refine px_D_mono (c_R_held (d := d + 1) rfl) ?_
  rintro _ _ ⟨rfl, rfl⟩
  show px_D sc (d + 3) 91 36 [(0, .inr (.inr 6)), (1, .inl (x1)), (2, .inl (x2)), (3, .inl (x3)), (4, .inl (x4)), (5, .inl (x5))] [.inl (f_R_held q4.2 q4.1 1 9999)] (px_G1, q4.2) _
  cases h
  exact px_D_iret rfl rfl ⟨rfl, rfl⟩

def f_World_lastWorth (s : px_Z) : Option (Int) := if (s 7 5) = ((-1)) then some 0 else (if 0 ≤ (s 7 5) ∧ (s 7 5) < 8 then some (s 12 (s 7 5).toNat) else none)
set_option maxHeartbeats 4000000 in
set_option maxRecDepth 100000 in
theorem c_World_lastWorth {sc : List Int} {d : Nat} {s : px_Z} {out : Int} (h : f_World_lastWorth s  = some out) : px_D sc (d + 0) 89 0 [(0, .inr (.inr 6))] [] (px_G1, s) (px_Qp s out) := by
  unfold f_World_lastWorth at h
  refine px_D_st 4 (ip1 := 4) (ls1 := [(0, .inr (.inr 6))]) (st1 := [.inl ((-1)), .inl (s 7 5)]) (h1 := (px_G1, s)) rfl ?_
  refine px_D_icmp rfl (fun hc => ?_) (fun hc => ?_)
  · have hc1 : ¬ ((s 7 5) = ((-1))) := of_decide_eq_true hc
    rw [if_neg hc1] at h
    refine px_D_st 5 (ip1 := 12) (ls1 := [(0, .inr (.inr 6))]) (st1 := [.inl (s 7 5), .inr (.inr 12)]) (h1 := (px_G1, s)) rfl ?_
    by_cases hc2 : 0 ≤ (s 7 5) ∧ (s 7 5) < 8
    case neg => rw [if_neg hc2] at h; cases h
    rw [if_pos hc2] at h
    refine px_D_iald (k := 7) (n := 8) rfl rfl hc2 ?_
    cases h
    exact px_D_iret rfl rfl ⟨rfl, rfl⟩
  · have hc1 : (s 7 5) = ((-1)) := Decidable.of_not_not (of_decide_eq_false hc)
    rw [if_pos hc1] at h
    refine px_D_st 2 (ip1 := 13) (ls1 := [(0, .inr (.inr 6))]) (st1 := [.inl (0)]) (h1 := (px_G1, s)) rfl ?_
    cases h
    exact px_D_iret rfl rfl ⟨rfl, rfl⟩

def l_World_homeSet_4 (s : px_Z)  : Nat → Int → Int → Option (Int)
  | 0, _, _ => none
  | n + 1, x1, x2 => if (s 6 1) ≤ (x2) then some x1 else (if 0 ≤ (x2) ∧ (x2) < 8 then if (s 9 x2.toNat) = (1) then l_World_homeSet_4 s  n (px_or (x1) ((px_shl (1) (x2)))) (px_wr (x2 + 1)) else l_World_homeSet_4 s  n x1 (px_wr (x2 + 1)) else none)
set_option maxHeartbeats 4000000 in
set_option maxRecDepth 100000 in
theorem cl_World_homeSet_4 {sc : List Int} {d : Nat} {s : px_Z}  : ∀ (n : Nat) (x1 : Int) (x2 : Int) (out : Int), l_World_homeSet_4 s  n x1 x2 = some out → px_D sc (d + 0) 85 4 [(0, .inr (.inr 6)), (1, .inl (x1)), (2, .inl (x2))] [] (px_G1, s) (px_Qp s out) := by
  intro n
  induction n with
  | zero => intro x1 x2 out h; cases h
  | succ n ih =>
    intro x1 x2 out h
    rw [l_World_homeSet_4] at h
    refine px_D_st 3 (ip1 := 7) (ls1 := [(0, .inr (.inr 6)), (1, .inl (x1)), (2, .inl (x2))]) (st1 := [.inl (s 6 1), .inl (x2)]) (h1 := (px_G1, s)) rfl ?_
    refine px_D_icmp rfl (fun hc => ?_) (fun hc => ?_)
    · have hc1 : (s 6 1) ≤ (x2) := of_decide_eq_true hc
      rw [if_pos hc1] at h
      refine px_D_st 1 (ip1 := 24) (ls1 := [(0, .inr (.inr 6)), (1, .inl (x1)), (2, .inl (x2))]) (st1 := [.inl (x1)]) (h1 := (px_G1, s)) rfl ?_
      cases h
      exact px_D_iret rfl rfl ⟨rfl, rfl⟩
    · have hc1 : ¬ ((s 6 1) ≤ (x2)) := of_decide_eq_false hc
      rw [if_neg hc1] at h
      refine px_D_st 4 (ip1 := 12) (ls1 := [(0, .inr (.inr 6)), (1, .inl (x1)), (2, .inl (x2))]) (st1 := [.inl (x2), .inr (.inr 9)]) (h1 := (px_G1, s)) rfl ?_
      by_cases hc2 : 0 ≤ (x2) ∧ (x2) < 8
      case neg => rw [if_neg hc2] at h; cases h
      rw [if_pos hc2] at h
      refine px_D_iald (k := 4) (n := 8) rfl rfl hc2 ?_
      refine px_D_st 1 (ip1 := 14) (ls1 := [(0, .inr (.inr 6)), (1, .inl (x1)), (2, .inl (x2))]) (st1 := [.inl (1), .inl (s 9 x2.toNat)]) (h1 := (px_G1, s)) rfl ?_
      refine px_D_icmp rfl (fun hc => ?_) (fun hc => ?_)
      · have hc3 : ¬ ((s 9 x2.toNat) = (1)) := of_decide_eq_true hc
        rw [if_neg hc3] at h
        refine px_D_st 2 (ip1 := 4) (ls1 := [(2, .inl (px_wr (x2 + 1))), (0, .inr (.inr 6)), (1, .inl (x1))]) (st1 := []) (h1 := (px_G1, s)) rfl ?_
        refine px_D_ls [(0, .inr (.inr 6)), (1, .inl (x1)), (2, .inl (px_wr (x2 + 1)))] rfl rfl (List.forall_mem_cons.mpr ⟨rfl, List.forall_mem_cons.mpr ⟨rfl, List.forall_mem_cons.mpr ⟨rfl, fun _ h => absurd h List.not_mem_nil⟩⟩⟩) ?_
        exact ih _ _ _ h
      · have hc3 : (s 9 x2.toNat) = (1) := Decidable.of_not_not (of_decide_eq_false hc)
        rw [if_pos hc3] at h
        refine px_D_st 8 (ip1 := 4) (ls1 := [(2, .inl (px_wr (x2 + 1))), (1, .inl (px_or (x1) ((px_shl (1) (x2))))), (0, .inr (.inr 6))]) (st1 := []) (h1 := (px_G1, s)) rfl ?_
        refine px_D_ls [(0, .inr (.inr 6)), (1, .inl (px_or (x1) ((px_shl (1) (x2))))), (2, .inl (px_wr (x2 + 1)))] rfl rfl (List.forall_mem_cons.mpr ⟨rfl, List.forall_mem_cons.mpr ⟨rfl, List.forall_mem_cons.mpr ⟨rfl, fun _ h => absurd h List.not_mem_nil⟩⟩⟩) ?_
        exact ih _ _ _ h
def f_World_homeSet (s : px_Z) : Option (Int) := l_World_homeSet_4 s  px_big 0 0
set_option maxHeartbeats 4000000 in
set_option maxRecDepth 100000 in
theorem c_World_homeSet {sc : List Int} {d : Nat} {s : px_Z} {out : Int} (h : f_World_homeSet s  = some out) : px_D sc (d + 0) 85 0 [(0, .inr (.inr 6))] [] (px_G1, s) (px_Qp s out) := by
  unfold f_World_homeSet at h
  refine px_D_st 4 (ip1 := 4) (ls1 := [(2, .inl (0)), (1, .inl (0)), (0, .inr (.inr 6))]) (st1 := []) (h1 := (px_G1, s)) rfl ?_
  refine px_D_ls [(0, .inr (.inr 6)), (1, .inl (0)), (2, .inl (0))] rfl rfl (List.forall_mem_cons.mpr ⟨rfl, List.forall_mem_cons.mpr ⟨rfl, List.forall_mem_cons.mpr ⟨rfl, fun _ h => absurd h List.not_mem_nil⟩⟩⟩) ?_
  refine cl_World_homeSet_4  px_big _ _ _ h

def f_Integer_bitCount (s : px_Z) (x0 : Int) : Int := px_and ((px_wr ((px_wr ((px_and ((px_wr ((px_wr ((px_and ((px_wr (x0 - (px_and ((px_ush (x0) (1))) (1431655765))))) (858993459)) + (px_and ((px_ush ((px_wr (x0 - (px_and ((px_ush (x0) (1))) (1431655765))))) (2))) (858993459)))) + (px_ush ((px_wr ((px_and ((px_wr (x0 - (px_and ((px_ush (x0) (1))) (1431655765))))) (858993459)) + (px_and ((px_ush ((px_wr (x0 - (px_and ((px_ush (x0) (1))) (1431655765))))) (2))) (858993459))))) (4))))) (252645135)) + (px_ush ((px_and ((px_wr ((px_wr ((px_and ((px_wr (x0 - (px_and ((px_ush (x0) (1))) (1431655765))))) (858993459)) + (px_and ((px_ush ((px_wr (x0 - (px_and ((px_ush (x0) (1))) (1431655765))))) (2))) (858993459)))) + (px_ush ((px_wr ((px_and ((px_wr (x0 - (px_and ((px_ush (x0) (1))) (1431655765))))) (858993459)) + (px_and ((px_ush ((px_wr (x0 - (px_and ((px_ush (x0) (1))) (1431655765))))) (2))) (858993459))))) (4))))) (252645135))) (8)))) + (px_ush ((px_wr ((px_and ((px_wr ((px_wr ((px_and ((px_wr (x0 - (px_and ((px_ush (x0) (1))) (1431655765))))) (858993459)) + (px_and ((px_ush ((px_wr (x0 - (px_and ((px_ush (x0) (1))) (1431655765))))) (2))) (858993459)))) + (px_ush ((px_wr ((px_and ((px_wr (x0 - (px_and ((px_ush (x0) (1))) (1431655765))))) (858993459)) + (px_and ((px_ush ((px_wr (x0 - (px_and ((px_ush (x0) (1))) (1431655765))))) (2))) (858993459))))) (4))))) (252645135)) + (px_ush ((px_and ((px_wr ((px_wr ((px_and ((px_wr (x0 - (px_and ((px_ush (x0) (1))) (1431655765))))) (858993459)) + (px_and ((px_ush ((px_wr (x0 - (px_and ((px_ush (x0) (1))) (1431655765))))) (2))) (858993459)))) + (px_ush ((px_wr ((px_and ((px_wr (x0 - (px_and ((px_ush (x0) (1))) (1431655765))))) (858993459)) + (px_and ((px_ush ((px_wr (x0 - (px_and ((px_ush (x0) (1))) (1431655765))))) (2))) (858993459))))) (4))))) (252645135))) (8))))) (16))))) (63)
set_option maxHeartbeats 4000000 in
set_option maxRecDepth 100000 in
theorem c_Integer_bitCount {sc : List Int} {d : Nat} {s : px_Z} {x0 : Int} {out : Int} (h : f_Integer_bitCount s x0 = out) : px_D sc (d + 0) 283 0 [(0, .inl (x0))] [] (px_G1, s) (px_Qp s out) := by
  unfold f_Integer_bitCount at h
  refine px_D_st 41 (ip1 := 41) (ls1 := [(0, .inl (px_wr ((px_wr ((px_and ((px_wr ((px_wr ((px_and ((px_wr (x0 - (px_and ((px_ush (x0) (1))) (1431655765))))) (858993459)) + (px_and ((px_ush ((px_wr (x0 - (px_and ((px_ush (x0) (1))) (1431655765))))) (2))) (858993459)))) + (px_ush ((px_wr ((px_and ((px_wr (x0 - (px_and ((px_ush (x0) (1))) (1431655765))))) (858993459)) + (px_and ((px_ush ((px_wr (x0 - (px_and ((px_ush (x0) (1))) (1431655765))))) (2))) (858993459))))) (4))))) (252645135)) + (px_ush ((px_and ((px_wr ((px_wr ((px_and ((px_wr (x0 - (px_and ((px_ush (x0) (1))) (1431655765))))) (858993459)) + (px_and ((px_ush ((px_wr (x0 - (px_and ((px_ush (x0) (1))) (1431655765))))) (2))) (858993459)))) + (px_ush ((px_wr ((px_and ((px_wr (x0 - (px_and ((px_ush (x0) (1))) (1431655765))))) (858993459)) + (px_and ((px_ush ((px_wr (x0 - (px_and ((px_ush (x0) (1))) (1431655765))))) (2))) (858993459))))) (4))))) (252645135))) (8)))) + (px_ush ((px_wr ((px_and ((px_wr ((px_wr ((px_and ((px_wr (x0 - (px_and ((px_ush (x0) (1))) (1431655765))))) (858993459)) + (px_and ((px_ush ((px_wr (x0 - (px_and ((px_ush (x0) (1))) (1431655765))))) (2))) (858993459)))) + (px_ush ((px_wr ((px_and ((px_wr (x0 - (px_and ((px_ush (x0) (1))) (1431655765))))) (858993459)) + (px_and ((px_ush ((px_wr (x0 - (px_and ((px_ush (x0) (1))) (1431655765))))) (2))) (858993459))))) (4))))) (252645135)) + (px_ush ((px_and ((px_wr ((px_wr ((px_and ((px_wr (x0 - (px_and ((px_ush (x0) (1))) (1431655765))))) (858993459)) + (px_and ((px_ush ((px_wr (x0 - (px_and ((px_ush (x0) (1))) (1431655765))))) (2))) (858993459)))) + (px_ush ((px_wr ((px_and ((px_wr (x0 - (px_and ((px_ush (x0) (1))) (1431655765))))) (858993459)) + (px_and ((px_ush ((px_wr (x0 - (px_and ((px_ush (x0) (1))) (1431655765))))) (2))) (858993459))))) (4))))) (252645135))) (8))))) (16)))))]) (st1 := [.inl (px_and ((px_wr ((px_wr ((px_and ((px_wr ((px_wr ((px_and ((px_wr (x0 - (px_and ((px_ush (x0) (1))) (1431655765))))) (858993459)) + (px_and ((px_ush ((px_wr (x0 - (px_and ((px_ush (x0) (1))) (1431655765))))) (2))) (858993459)))) + (px_ush ((px_wr ((px_and ((px_wr (x0 - (px_and ((px_ush (x0) (1))) (1431655765))))) (858993459)) + (px_and ((px_ush ((px_wr (x0 - (px_and ((px_ush (x0) (1))) (1431655765))))) (2))) (858993459))))) (4))))) (252645135)) + (px_ush ((px_and ((px_wr ((px_wr ((px_and ((px_wr (x0 - (px_and ((px_ush (x0) (1))) (1431655765))))) (858993459)) + (px_and ((px_ush ((px_wr (x0 - (px_and ((px_ush (x0) (1))) (1431655765))))) (2))) (858993459)))) + (px_ush ((px_wr ((px_and ((px_wr (x0 - (px_and ((px_ush (x0) (1))) (1431655765))))) (858993459)) + (px_and ((px_ush ((px_wr (x0 - (px_and ((px_ush (x0) (1))) (1431655765))))) (2))) (858993459))))) (4))))) (252645135))) (8)))) + (px_ush ((px_wr ((px_and ((px_wr ((px_wr ((px_and ((px_wr (x0 - (px_and ((px_ush (x0) (1))) (1431655765))))) (858993459)) + (px_and ((px_ush ((px_wr (x0 - (px_and ((px_ush (x0) (1))) (1431655765))))) (2))) (858993459)))) + (px_ush ((px_wr ((px_and ((px_wr (x0 - (px_and ((px_ush (x0) (1))) (1431655765))))) (858993459)) + (px_and ((px_ush ((px_wr (x0 - (px_and ((px_ush (x0) (1))) (1431655765))))) (2))) (858993459))))) (4))))) (252645135)) + (px_ush ((px_and ((px_wr ((px_wr ((px_and ((px_wr (x0 - (px_and ((px_ush (x0) (1))) (1431655765))))) (858993459)) + (px_and ((px_ush ((px_wr (x0 - (px_and ((px_ush (x0) (1))) (1431655765))))) (2))) (858993459)))) + (px_ush ((px_wr ((px_and ((px_wr (x0 - (px_and ((px_ush (x0) (1))) (1431655765))))) (858993459)) + (px_and ((px_ush ((px_wr (x0 - (px_and ((px_ush (x0) (1))) (1431655765))))) (2))) (858993459))))) (4))))) (252645135))) (8))))) (16))))) (63))]) (h1 := (px_G1, s)) rfl ?_
  subst h
  exact px_D_iret rfl rfl ⟨rfl, rfl⟩

def f_World_price (s : px_Z) (x1 : Int) : Option (Int × px_Z) := (f_World_homeSet s ).bind (fun q1 => (f_World_lastWorth s ).bind (fun q2 => if 0 ≤ (x1) ∧ (x1) < 8 then if (s 9 x1.toNat) = (2) then (f_World_priceThen s x1 (s 7 4) (f_Integer_bitCount s q1) q2 1).bind (fun q6 => some (q6.1, q6.2)) else (f_World_priceThen s x1 (s 7 4) (f_Integer_bitCount s q1) q2 0).bind (fun q5 => some (q5.1, q5.2)) else none))
set_option maxHeartbeats 4000000 in
set_option maxRecDepth 100000 in
theorem c_World_price {sc : List Int} {d : Nat} {s : px_Z} {x1 : Int} {out : Int × px_Z} (h : f_World_price s x1 = some out) : px_D sc (d + 4) 90 0 [(0, .inr (.inr 6)), (1, .inl (x1))] [] (px_G1, s) (px_Qi out) := by
  unfold f_World_price at h
  refine px_D_st 6 (ip1 := 6) (ls1 := [(0, .inr (.inr 6)), (1, .inl (x1))]) (st1 := [.inr (.inr 6), .inl (s 7 4), .inl (x1), .inr (.inr 6)]) (h1 := (px_G1, s)) rfl ?_
  refine px_D_call (as := [.inr (.inr 6)]) (rest := [.inl (s 7 4), .inl (x1), .inr (.inr 6)]) rfl rfl rfl rfl ?_
  obtain ⟨q1, hq1, h⟩ := Option.bind_eq_some_iff.mp h
  refine px_D_mono (c_World_homeSet (d := d + 3) hq1) ?_
  rintro _ _ ⟨rfl, rfl⟩
  show px_D sc (d + 4) 90 7 [(0, .inr (.inr 6)), (1, .inl (x1))] [.inl (q1), .inl (s 7 4), .inl (x1), .inr (.inr 6)] (px_G1, s) _
  refine px_D_call (as := [.inl (q1)]) (rest := [.inl (s 7 4), .inl (x1), .inr (.inr 6)]) rfl rfl rfl rfl ?_
  refine px_D_mono (c_Integer_bitCount (d := d + 3) rfl) ?_
  rintro _ _ ⟨rfl, rfl⟩
  show px_D sc (d + 4) 90 8 [(0, .inr (.inr 6)), (1, .inl (x1))] [.inl (f_Integer_bitCount s q1), .inl (s 7 4), .inl (x1), .inr (.inr 6)] (px_G1, s) _
  refine px_D_st 1 (ip1 := 9) (ls1 := [(0, .inr (.inr 6)), (1, .inl (x1))]) (st1 := [.inr (.inr 6), .inl (f_Integer_bitCount s q1), .inl (s 7 4), .inl (x1), .inr (.inr 6)]) (h1 := (px_G1, s)) rfl ?_
  refine px_D_call (as := [.inr (.inr 6)]) (rest := [.inl (f_Integer_bitCount s q1), .inl (s 7 4), .inl (x1), .inr (.inr 6)]) rfl rfl rfl rfl ?_
  obtain ⟨q2, hq2, h⟩ := Option.bind_eq_some_iff.mp h
  refine px_D_mono (c_World_lastWorth (d := d + 3) hq2) ?_
  rintro _ _ ⟨rfl, rfl⟩
  show px_D sc (d + 4) 90 10 [(0, .inr (.inr 6)), (1, .inl (x1))] [.inl (q2), .inl (f_Integer_bitCount s q1), .inl (s 7 4), .inl (x1), .inr (.inr 6)] (px_G1, s) _
  refine px_D_st 4 (ip1 := 14) (ls1 := [(0, .inr (.inr 6)), (1, .inl (x1))]) (st1 := [.inl (x1), .inr (.inr 9), .inl (q2), .inl (f_Integer_bitCount s q1), .inl (s 7 4), .inl (x1), .inr (.inr 6)]) (h1 := (px_G1, s)) rfl ?_
  by_cases hc3 : 0 ≤ (x1) ∧ (x1) < 8
  case neg => rw [if_neg hc3] at h; cases h
  rw [if_pos hc3] at h
  refine px_D_iald (k := 4) (n := 8) rfl rfl hc3 ?_
  refine px_D_st 1 (ip1 := 16) (ls1 := [(0, .inr (.inr 6)), (1, .inl (x1))]) (st1 := [.inl (2), .inl (s 9 x1.toNat), .inl (q2), .inl (f_Integer_bitCount s q1), .inl (s 7 4), .inl (x1), .inr (.inr 6)]) (h1 := (px_G1, s)) rfl ?_
  refine px_D_icmp rfl (fun hc => ?_) (fun hc => ?_)
  · have hc4 : ¬ ((s 9 x1.toNat) = (2)) := of_decide_eq_true hc
    rw [if_neg hc4] at h
    refine px_D_st 1 (ip1 := 20) (ls1 := [(0, .inr (.inr 6)), (1, .inl (x1))]) (st1 := [.inl (0), .inl (q2), .inl (f_Integer_bitCount s q1), .inl (s 7 4), .inl (x1), .inr (.inr 6)]) (h1 := (px_G1, s)) rfl ?_
    refine px_D_call (as := [.inr (.inr 6), .inl (x1), .inl (s 7 4), .inl (f_Integer_bitCount s q1), .inl (q2), .inl (0)]) (rest := []) rfl rfl rfl rfl ?_
    obtain ⟨q5, hq5, h⟩ := Option.bind_eq_some_iff.mp h
    refine px_D_mono (c_World_priceThen (d := d + 0) hq5) ?_
    rintro _ _ ⟨rfl, rfl⟩
    show px_D sc (d + 4) 90 21 [(0, .inr (.inr 6)), (1, .inl (x1))] [.inl (q5.1)] (px_G1, q5.2) _
    cases h
    exact px_D_iret rfl rfl ⟨rfl, rfl⟩
  · have hc4 : (s 9 x1.toNat) = (2) := Decidable.of_not_not (of_decide_eq_false hc)
    rw [if_pos hc4] at h
    refine px_D_st 2 (ip1 := 20) (ls1 := [(0, .inr (.inr 6)), (1, .inl (x1))]) (st1 := [.inl (1), .inl (q2), .inl (f_Integer_bitCount s q1), .inl (s 7 4), .inl (x1), .inr (.inr 6)]) (h1 := (px_G1, s)) rfl ?_
    refine px_D_call (as := [.inr (.inr 6), .inl (x1), .inl (s 7 4), .inl (f_Integer_bitCount s q1), .inl (q2), .inl (1)]) (rest := []) rfl rfl rfl rfl ?_
    obtain ⟨q6, hq6, h⟩ := Option.bind_eq_some_iff.mp h
    refine px_D_mono (c_World_priceThen (d := d + 0) hq6) ?_
    rintro _ _ ⟨rfl, rfl⟩
    show px_D sc (d + 4) 90 21 [(0, .inr (.inr 6)), (1, .inl (x1))] [.inl (q6.1)] (px_G1, q6.2) _
    cases h
    exact px_D_iret rfl rfl ⟨rfl, rfl⟩

def l_Hills_mudIn_2 (s : px_Z) (k29 : Int → Option (Int)) : Nat → Int → Int → Int → Option (Int)
  | 0, _, _, _ => none
  | n + 1, x1, x2, x3 => if (s 28 0) ≤ (x3) then some (-1) else (if 0 ≤ (x3) ∧ (x3) < 24 then if (s 29 x3.toNat) = ((-1)) then (if 0 ≤ (x3) ∧ (x3) < 24 then if (s 30 x3.toNat) = (x1) then (if 0 ≤ (x3) ∧ (x3) < 24 then if 0 ≤ (x3) ∧ (x3) < 24 then if (f_R_within s x2 (s 31 x3.toNat) (s 32 x3.toNat)) = (0) then l_Hills_mudIn_2 s k29 n x1 x2 (px_wr (x3 + 1)) else k29 x3 else none else none) else l_Hills_mudIn_2 s k29 n x1 x2 (px_wr (x3 + 1)) else none) else l_Hills_mudIn_2 s k29 n x1 x2 (px_wr (x3 + 1)) else none)
set_option maxHeartbeats 4000000 in
set_option maxRecDepth 100000 in
theorem cl_Hills_mudIn_2 {sc : List Int} {d : Nat} {s : px_Z} {k29 : Int → Option (Int)}  (hk29 : ∀ (y3 : Int) (out : Int), k29 y3 = some out → px_D sc (d + 1) 7 29 [(0, .inr (.inr 28)), (3, .inl (y3))] [] (px_G1, s) (px_Qp s out)) : ∀ (n : Nat) (x1 : Int) (x2 : Int) (x3 : Int) (out : Int), l_Hills_mudIn_2 s k29 n x1 x2 x3 = some out → px_D sc (d + 1) 7 2 [(0, .inr (.inr 28)), (1, .inl (x1)), (2, .inl (x2)), (3, .inl (x3))] [] (px_G1, s) (px_Qp s out) := by
  intro n
  induction n with
  | zero => intro x1 x2 x3 out h; cases h
  | succ n ih =>
    intro x1 x2 x3 out h
    rw [l_Hills_mudIn_2] at h
    refine px_D_st 3 (ip1 := 5) (ls1 := [(0, .inr (.inr 28)), (1, .inl (x1)), (2, .inl (x2)), (3, .inl (x3))]) (st1 := [.inl (s 28 0), .inl (x3)]) (h1 := (px_G1, s)) rfl ?_
    refine px_D_icmp rfl (fun hc => ?_) (fun hc => ?_)
    · have hc1 : (s 28 0) ≤ (x3) := of_decide_eq_true hc
      rw [if_pos hc1] at h
      refine px_D_st 1 (ip1 := 37) (ls1 := [(0, .inr (.inr 28)), (1, .inl (x1)), (2, .inl (x2)), (3, .inl (x3))]) (st1 := [.inl ((-1))]) (h1 := (px_G1, s)) rfl ?_
      cases h
      exact px_D_iret rfl rfl ⟨rfl, rfl⟩
    · have hc1 : ¬ ((s 28 0) ≤ (x3)) := of_decide_eq_false hc
      rw [if_neg hc1] at h
      refine px_D_st 3 (ip1 := 9) (ls1 := [(0, .inr (.inr 28)), (1, .inl (x1)), (2, .inl (x2)), (3, .inl (x3))]) (st1 := [.inl (x3), .inr (.inr 29)]) (h1 := (px_G1, s)) rfl ?_
      by_cases hc2 : 0 ≤ (x3) ∧ (x3) < 24
      case neg => rw [if_neg hc2] at h; cases h
      rw [if_pos hc2] at h
      refine px_D_iald (k := 24) (n := 24) rfl rfl hc2 ?_
      refine px_D_st 1 (ip1 := 11) (ls1 := [(0, .inr (.inr 28)), (1, .inl (x1)), (2, .inl (x2)), (3, .inl (x3))]) (st1 := [.inl ((-1)), .inl (s 29 x3.toNat)]) (h1 := (px_G1, s)) rfl ?_
      refine px_D_icmp rfl (fun hc => ?_) (fun hc => ?_)
      · have hc3 : ¬ ((s 29 x3.toNat) = ((-1))) := of_decide_eq_true hc
        rw [if_neg hc3] at h
        refine px_D_st 2 (ip1 := 2) (ls1 := [(3, .inl (px_wr (x3 + 1))), (0, .inr (.inr 28)), (1, .inl (x1)), (2, .inl (x2))]) (st1 := []) (h1 := (px_G1, s)) rfl ?_
        refine px_D_ls [(0, .inr (.inr 28)), (1, .inl (x1)), (2, .inl (x2)), (3, .inl (px_wr (x3 + 1)))] rfl rfl (List.forall_mem_cons.mpr ⟨rfl, List.forall_mem_cons.mpr ⟨rfl, List.forall_mem_cons.mpr ⟨rfl, List.forall_mem_cons.mpr ⟨rfl, fun _ h => absurd h List.not_mem_nil⟩⟩⟩⟩) ?_
        exact ih _ _ _ _ h
      · have hc3 : (s 29 x3.toNat) = ((-1)) := Decidable.of_not_not (of_decide_eq_false hc)
        rw [if_pos hc3] at h
        refine px_D_st 3 (ip1 := 15) (ls1 := [(0, .inr (.inr 28)), (1, .inl (x1)), (2, .inl (x2)), (3, .inl (x3))]) (st1 := [.inl (x3), .inr (.inr 30)]) (h1 := (px_G1, s)) rfl ?_
        by_cases hc4 : 0 ≤ (x3) ∧ (x3) < 24
        case neg => rw [if_neg hc4] at h; cases h
        rw [if_pos hc4] at h
        refine px_D_iald (k := 25) (n := 24) rfl rfl hc4 ?_
        refine px_D_st 1 (ip1 := 17) (ls1 := [(0, .inr (.inr 28)), (1, .inl (x1)), (2, .inl (x2)), (3, .inl (x3))]) (st1 := [.inl (x1), .inl (s 30 x3.toNat)]) (h1 := (px_G1, s)) rfl ?_
        refine px_D_icmp rfl (fun hc => ?_) (fun hc => ?_)
        · have hc5 : ¬ ((s 30 x3.toNat) = (x1)) := of_decide_eq_true hc
          rw [if_neg hc5] at h
          refine px_D_st 2 (ip1 := 2) (ls1 := [(3, .inl (px_wr (x3 + 1))), (0, .inr (.inr 28)), (1, .inl (x1)), (2, .inl (x2))]) (st1 := []) (h1 := (px_G1, s)) rfl ?_
          refine px_D_ls [(0, .inr (.inr 28)), (1, .inl (x1)), (2, .inl (x2)), (3, .inl (px_wr (x3 + 1)))] rfl rfl (List.forall_mem_cons.mpr ⟨rfl, List.forall_mem_cons.mpr ⟨rfl, List.forall_mem_cons.mpr ⟨rfl, List.forall_mem_cons.mpr ⟨rfl, fun _ h => absurd h List.not_mem_nil⟩⟩⟩⟩) ?_
          exact ih _ _ _ _ h
        · have hc5 : (s 30 x3.toNat) = (x1) := Decidable.of_not_not (of_decide_eq_false hc)
          rw [if_pos hc5] at h
          refine px_D_st 4 (ip1 := 22) (ls1 := [(0, .inr (.inr 28)), (1, .inl (x1)), (2, .inl (x2)), (3, .inl (x3))]) (st1 := [.inl (x3), .inr (.inr 31), .inl (x2)]) (h1 := (px_G1, s)) rfl ?_
          by_cases hc6 : 0 ≤ (x3) ∧ (x3) < 24
          case neg => rw [if_neg hc6] at h; cases h
          rw [if_pos hc6] at h
          refine px_D_iald (k := 26) (n := 24) rfl rfl hc6 ?_
          refine px_D_st 3 (ip1 := 26) (ls1 := [(0, .inr (.inr 28)), (1, .inl (x1)), (2, .inl (x2)), (3, .inl (x3))]) (st1 := [.inl (x3), .inr (.inr 32), .inl (s 31 x3.toNat), .inl (x2)]) (h1 := (px_G1, s)) rfl ?_
          by_cases hc7 : 0 ≤ (x3) ∧ (x3) < 24
          case neg => rw [if_neg hc7] at h; cases h
          rw [if_pos hc7] at h
          refine px_D_iald (k := 27) (n := 24) rfl rfl hc7 ?_
          refine px_D_call (as := [.inl (x2), .inl (s 31 x3.toNat), .inl (s 32 x3.toNat)]) (rest := []) rfl rfl rfl rfl ?_
          refine px_D_mono (c_R_within (d := d + 0) rfl) ?_
          rintro _ _ ⟨rfl, rfl⟩
          show px_D sc (d + 1) 7 28 [(0, .inr (.inr 28)), (1, .inl (x1)), (2, .inl (x2)), (3, .inl (x3))] [.inl (f_R_within s x2 (s 31 x3.toNat) (s 32 x3.toNat))] (px_G1, s) _
          refine px_D_ifc rfl (fun hc => ?_) (fun hc => ?_)
          · have hc8 : (f_R_within s x2 (s 31 x3.toNat) (s 32 x3.toNat)) = (0) := of_decide_eq_true hc
            rw [if_pos hc8] at h
            refine px_D_st 2 (ip1 := 2) (ls1 := [(3, .inl (px_wr (x3 + 1))), (0, .inr (.inr 28)), (1, .inl (x1)), (2, .inl (x2))]) (st1 := []) (h1 := (px_G1, s)) rfl ?_
            refine px_D_ls [(0, .inr (.inr 28)), (1, .inl (x1)), (2, .inl (x2)), (3, .inl (px_wr (x3 + 1)))] rfl rfl (List.forall_mem_cons.mpr ⟨rfl, List.forall_mem_cons.mpr ⟨rfl, List.forall_mem_cons.mpr ⟨rfl, List.forall_mem_cons.mpr ⟨rfl, fun _ h => absurd h List.not_mem_nil⟩⟩⟩⟩) ?_
            exact ih _ _ _ _ h
          · have hc8 : ¬ ((f_R_within s x2 (s 31 x3.toNat) (s 32 x3.toNat)) = (0)) := of_decide_eq_false hc
            rw [if_neg hc8] at h
            refine px_D_ls [(0, .inr (.inr 28)), (3, .inl (x3))] rfl rfl (List.forall_mem_cons.mpr ⟨rfl, List.forall_mem_cons.mpr ⟨rfl, fun _ h => absurd h List.not_mem_nil⟩⟩) ?_
            exact hk29 _ _ h
def f_Hills_mudIn (s : px_Z) (x1 : Int) (x2 : Int) : Option (Int) := l_Hills_mudIn_2 s (fun x3 => if 0 ≤ (x3) ∧ (x3) < 24 then some (s 33 x3.toNat) else none) px_big x1 x2 0
set_option maxHeartbeats 4000000 in
set_option maxRecDepth 100000 in
theorem c_Hills_mudIn {sc : List Int} {d : Nat} {s : px_Z} {x1 : Int} {x2 : Int} {out : Int} (h : f_Hills_mudIn s x1 x2 = some out) : px_D sc (d + 1) 7 0 [(0, .inr (.inr 28)), (1, .inl (x1)), (2, .inl (x2))] [] (px_G1, s) (px_Qp s out) := by
  unfold f_Hills_mudIn at h
  refine px_D_st 2 (ip1 := 2) (ls1 := [(3, .inl (0)), (0, .inr (.inr 28)), (1, .inl (x1)), (2, .inl (x2))]) (st1 := []) (h1 := (px_G1, s)) rfl ?_
  refine px_D_ls [(0, .inr (.inr 28)), (1, .inl (x1)), (2, .inl (x2)), (3, .inl (0))] rfl rfl (List.forall_mem_cons.mpr ⟨rfl, List.forall_mem_cons.mpr ⟨rfl, List.forall_mem_cons.mpr ⟨rfl, List.forall_mem_cons.mpr ⟨rfl, fun _ h => absurd h List.not_mem_nil⟩⟩⟩⟩) ?_
  refine cl_Hills_mudIn_2 ?_ px_big _ _ _ _ h
  · intro x3 out h
    refine px_D_st 3 (ip1 := 32) (ls1 := [(0, .inr (.inr 28)), (3, .inl (x3))]) (st1 := [.inl (x3), .inr (.inr 33)]) (h1 := (px_G1, s)) rfl ?_
    by_cases hc9 : 0 ≤ (x3) ∧ (x3) < 24
    case neg => rw [if_neg hc9] at h; cases h
    rw [if_pos hc9] at h
    refine px_D_iald (k := 28) (n := 24) rfl rfl hc9 ?_
    cases h
    exact px_D_iret rfl rfl ⟨rfl, rfl⟩

def f_World_all (s : px_Z) : Int := px_wr ((px_shl (1) ((s 6 1))) - 1)
set_option maxHeartbeats 4000000 in
set_option maxRecDepth 100000 in
theorem c_World_all {sc : List Int} {d : Nat} {s : px_Z} {out : Int} (h : f_World_all s  = out) : px_D sc (d + 0) 84 0 [(0, .inr (.inr 6))] [] (px_G1, s) (px_Qp s out) := by
  unfold f_World_all at h
  refine px_D_st 6 (ip1 := 6) (ls1 := [(0, .inr (.inr 6))]) (st1 := [.inl (px_wr ((px_shl (1) ((s 6 1))) - 1))]) (h1 := (px_G1, s)) rfl ?_
  subst h
  exact px_D_iret rfl rfl ⟨rfl, rfl⟩

def j_World_isReady_j9 (s : px_Z) (x1 : Int) (x2 : Int) (t0 : Int) : Option (Int) := if 0 ≤ (x1) ∧ (x1) < 8 then if (px_and ((s 13 x1.toNat)) ((px_xor (x2) ((-1))))) = (0) then (if (t0) = (0) then some 1 else (if (px_or (x2) ((px_shl (1) (x1)))) = (f_World_all s ) then some 1 else some 0)) else some 0 else none
set_option maxHeartbeats 4000000 in
set_option maxRecDepth 100000 in
theorem cj_World_isReady_j9 {sc : List Int} {d : Nat} {s : px_Z} {x1 : Int} {x2 : Int} {t0 : Int} {out : Int} (h : j_World_isReady_j9 s x1 x2 t0 = some out) : px_D sc (d + 1) 87 9 [(0, .inr (.inr 6)), (1, .inl (x1)), (2, .inl (x2))] [.inl (t0)] (px_G1, s) (px_Qp s out) := by
  unfold j_World_isReady_j9 at h
  refine px_D_st 4 (ip1 := 13) (ls1 := [(3, .inl (t0)), (0, .inr (.inr 6)), (1, .inl (x1)), (2, .inl (x2))]) (st1 := [.inl (x1), .inr (.inr 13)]) (h1 := (px_G1, s)) rfl ?_
  by_cases hc2 : 0 ≤ (x1) ∧ (x1) < 8
  case neg => rw [if_neg hc2] at h; cases h
  rw [if_pos hc2] at h
  refine px_D_iald (k := 8) (n := 8) rfl rfl hc2 ?_
  refine px_D_st 4 (ip1 := 18) (ls1 := [(3, .inl (t0)), (0, .inr (.inr 6)), (1, .inl (x1)), (2, .inl (x2))]) (st1 := [.inl (px_and ((s 13 x1.toNat)) ((px_xor (x2) ((-1)))))]) (h1 := (px_G1, s)) rfl ?_
  refine px_D_ifc rfl (fun hc => ?_) (fun hc => ?_)
  · have hc3 : ¬ ((px_and ((s 13 x1.toNat)) ((px_xor (x2) ((-1))))) = (0)) := of_decide_eq_true hc
    rw [if_neg hc3] at h
    refine px_D_st 1 (ip1 := 32) (ls1 := [(3, .inl (t0)), (0, .inr (.inr 6)), (1, .inl (x1)), (2, .inl (x2))]) (st1 := [.inl (0)]) (h1 := (px_G1, s)) rfl ?_
    cases h
    exact px_D_iret rfl rfl ⟨rfl, rfl⟩
  · have hc3 : (px_and ((s 13 x1.toNat)) ((px_xor (x2) ((-1))))) = (0) := Decidable.of_not_not (of_decide_eq_false hc)
    rw [if_pos hc3] at h
    refine px_D_st 1 (ip1 := 20) (ls1 := [(3, .inl (t0)), (0, .inr (.inr 6)), (1, .inl (x1)), (2, .inl (x2))]) (st1 := [.inl (t0)]) (h1 := (px_G1, s)) rfl ?_
    refine px_D_ifc rfl (fun hc => ?_) (fun hc => ?_)
    · have hc4 : (t0) = (0) := of_decide_eq_true hc
      rw [if_pos hc4] at h
      refine px_D_st 2 (ip1 := 32) (ls1 := [(3, .inl (t0)), (0, .inr (.inr 6)), (1, .inl (x1)), (2, .inl (x2))]) (st1 := [.inl (1)]) (h1 := (px_G1, s)) rfl ?_
      cases h
      exact px_D_iret rfl rfl ⟨rfl, rfl⟩
    · have hc4 : ¬ ((t0) = (0)) := of_decide_eq_false hc
      rw [if_neg hc4] at h
      refine px_D_st 6 (ip1 := 27) (ls1 := [(3, .inl (t0)), (0, .inr (.inr 6)), (1, .inl (x1)), (2, .inl (x2))]) (st1 := [.inr (.inr 6), .inl (px_or (x2) ((px_shl (1) (x1))))]) (h1 := (px_G1, s)) rfl ?_
      refine px_D_call (as := [.inr (.inr 6)]) (rest := [.inl (px_or (x2) ((px_shl (1) (x1))))]) rfl rfl rfl rfl ?_
      refine px_D_mono (c_World_all (d := d + 0) rfl) ?_
      rintro _ _ ⟨rfl, rfl⟩
      show px_D sc (d + 1) 87 28 [(3, .inl (t0)), (0, .inr (.inr 6)), (1, .inl (x1)), (2, .inl (x2))] [.inl (f_World_all s ), .inl (px_or (x2) ((px_shl (1) (x1))))] (px_G1, s) _
      refine px_D_icmp rfl (fun hc => ?_) (fun hc => ?_)
      · have hc5 : ¬ ((px_or (x2) ((px_shl (1) (x1)))) = (f_World_all s )) := of_decide_eq_true hc
        rw [if_neg hc5] at h
        refine px_D_st 1 (ip1 := 32) (ls1 := [(3, .inl (t0)), (0, .inr (.inr 6)), (1, .inl (x1)), (2, .inl (x2))]) (st1 := [.inl (0)]) (h1 := (px_G1, s)) rfl ?_
        cases h
        exact px_D_iret rfl rfl ⟨rfl, rfl⟩
      · have hc5 : (px_or (x2) ((px_shl (1) (x1)))) = (f_World_all s ) := Decidable.of_not_not (of_decide_eq_false hc)
        rw [if_pos hc5] at h
        refine px_D_st 2 (ip1 := 32) (ls1 := [(3, .inl (t0)), (0, .inr (.inr 6)), (1, .inl (x1)), (2, .inl (x2))]) (st1 := [.inl (1)]) (h1 := (px_G1, s)) rfl ?_
        cases h
        exact px_D_iret rfl rfl ⟨rfl, rfl⟩
def f_World_isReady (s : px_Z) (x1 : Int) (x2 : Int) : Option (Int) := if (x1) = (px_wr ((s 6 1) - 1)) then j_World_isReady_j9 s x1 x2 1 else j_World_isReady_j9 s x1 x2 0
set_option maxHeartbeats 4000000 in
set_option maxRecDepth 100000 in
theorem c_World_isReady {sc : List Int} {d : Nat} {s : px_Z} {x1 : Int} {x2 : Int} {out : Int} (h : f_World_isReady s x1 x2 = some out) : px_D sc (d + 1) 87 0 [(0, .inr (.inr 6)), (1, .inl (x1)), (2, .inl (x2))] [] (px_G1, s) (px_Qp s out) := by
  unfold f_World_isReady at h
  refine px_D_st 5 (ip1 := 5) (ls1 := [(0, .inr (.inr 6)), (1, .inl (x1)), (2, .inl (x2))]) (st1 := [.inl (px_wr ((s 6 1) - 1)), .inl (x1)]) (h1 := (px_G1, s)) rfl ?_
  refine px_D_icmp rfl (fun hc => ?_) (fun hc => ?_)
  · have hc1 : ¬ ((x1) = (px_wr ((s 6 1) - 1))) := of_decide_eq_true hc
    rw [if_neg hc1] at h
    refine px_D_st 1 (ip1 := 9) (ls1 := [(0, .inr (.inr 6)), (1, .inl (x1)), (2, .inl (x2))]) (st1 := [.inl (0)]) (h1 := (px_G1, s)) rfl ?_
    refine px_D_ls [(0, .inr (.inr 6)), (1, .inl (x1)), (2, .inl (x2))] rfl rfl (List.forall_mem_cons.mpr ⟨rfl, List.forall_mem_cons.mpr ⟨rfl, List.forall_mem_cons.mpr ⟨rfl, fun _ h => absurd h List.not_mem_nil⟩⟩⟩) ?_
    exact cj_World_isReady_j9 h
  · have hc1 : (x1) = (px_wr ((s 6 1) - 1)) := Decidable.of_not_not (of_decide_eq_false hc)
    rw [if_pos hc1] at h
    refine px_D_st 2 (ip1 := 9) (ls1 := [(0, .inr (.inr 6)), (1, .inl (x1)), (2, .inl (x2))]) (st1 := [.inl (1)]) (h1 := (px_G1, s)) rfl ?_
    refine px_D_ls [(0, .inr (.inr 6)), (1, .inl (x1)), (2, .inl (x2))] rfl rfl (List.forall_mem_cons.mpr ⟨rfl, List.forall_mem_cons.mpr ⟨rfl, List.forall_mem_cons.mpr ⟨rfl, fun _ h => absurd h List.not_mem_nil⟩⟩⟩) ?_
    exact cj_World_isReady_j9 h

def f_World_mayCome (s : px_Z) (x1 : Int) : Option (Int) := if (s 7 6) = (0) then (if 0 ≤ (x1) ∧ (x1) < 8 then if (s 9 x1.toNat) = (1) then some 0 else (f_World_homeSet s ).bind (fun q4 => (f_World_isReady s x1 q4).bind (fun q5 => if (q5) = (0) then some 0 else some 1)) else none) else some 0
set_option maxHeartbeats 4000000 in
set_option maxRecDepth 100000 in
theorem c_World_mayCome {sc : List Int} {d : Nat} {s : px_Z} {x1 : Int} {out : Int} (h : f_World_mayCome s x1 = some out) : px_D sc (d + 2) 88 0 [(0, .inr (.inr 6)), (1, .inl (x1))] [] (px_G1, s) (px_Qp s out) := by
  unfold f_World_mayCome at h
  refine px_D_st 3 (ip1 := 3) (ls1 := [(0, .inr (.inr 6)), (1, .inl (x1))]) (st1 := [.inl (s 7 6)]) (h1 := (px_G1, s)) rfl ?_
  refine px_D_ifc rfl (fun hc => ?_) (fun hc => ?_)
  · have hc1 : ¬ ((s 7 6) = (0)) := of_decide_eq_true hc
    rw [if_neg hc1] at h
    refine px_D_st 1 (ip1 := 20) (ls1 := [(0, .inr (.inr 6)), (1, .inl (x1))]) (st1 := [.inl (0)]) (h1 := (px_G1, s)) rfl ?_
    cases h
    exact px_D_iret rfl rfl ⟨rfl, rfl⟩
  · have hc1 : (s 7 6) = (0) := Decidable.of_not_not (of_decide_eq_false hc)
    rw [if_pos hc1] at h
    refine px_D_st 4 (ip1 := 8) (ls1 := [(0, .inr (.inr 6)), (1, .inl (x1))]) (st1 := [.inl (x1), .inr (.inr 9)]) (h1 := (px_G1, s)) rfl ?_
    by_cases hc2 : 0 ≤ (x1) ∧ (x1) < 8
    case neg => rw [if_neg hc2] at h; cases h
    rw [if_pos hc2] at h
    refine px_D_iald (k := 4) (n := 8) rfl rfl hc2 ?_
    refine px_D_st 1 (ip1 := 10) (ls1 := [(0, .inr (.inr 6)), (1, .inl (x1))]) (st1 := [.inl (1), .inl (s 9 x1.toNat)]) (h1 := (px_G1, s)) rfl ?_
    refine px_D_icmp rfl (fun hc => ?_) (fun hc => ?_)
    · have hc3 : (s 9 x1.toNat) = (1) := of_decide_eq_true hc
      rw [if_pos hc3] at h
      refine px_D_st 1 (ip1 := 20) (ls1 := [(0, .inr (.inr 6)), (1, .inl (x1))]) (st1 := [.inl (0)]) (h1 := (px_G1, s)) rfl ?_
      cases h
      exact px_D_iret rfl rfl ⟨rfl, rfl⟩
    · have hc3 : ¬ ((s 9 x1.toNat) = (1)) := of_decide_eq_false hc
      rw [if_neg hc3] at h
      refine px_D_st 3 (ip1 := 14) (ls1 := [(0, .inr (.inr 6)), (1, .inl (x1))]) (st1 := [.inr (.inr 6), .inl (x1), .inr (.inr 6)]) (h1 := (px_G1, s)) rfl ?_
      refine px_D_call (as := [.inr (.inr 6)]) (rest := [.inl (x1), .inr (.inr 6)]) rfl rfl rfl rfl ?_
      obtain ⟨q4, hq4, h⟩ := Option.bind_eq_some_iff.mp h
      refine px_D_mono (c_World_homeSet (d := d + 1) hq4) ?_
      rintro _ _ ⟨rfl, rfl⟩
      show px_D sc (d + 2) 88 15 [(0, .inr (.inr 6)), (1, .inl (x1))] [.inl (q4), .inl (x1), .inr (.inr 6)] (px_G1, s) _
      refine px_D_call (as := [.inr (.inr 6), .inl (x1), .inl (q4)]) (rest := []) rfl rfl rfl rfl ?_
      obtain ⟨q5, hq5, h⟩ := Option.bind_eq_some_iff.mp h
      refine px_D_mono (c_World_isReady (d := d + 0) hq5) ?_
      rintro _ _ ⟨rfl, rfl⟩
      show px_D sc (d + 2) 88 16 [(0, .inr (.inr 6)), (1, .inl (x1))] [.inl (q5)] (px_G1, s) _
      refine px_D_ifc rfl (fun hc => ?_) (fun hc => ?_)
      · have hc6 : (q5) = (0) := of_decide_eq_true hc
        rw [if_pos hc6] at h
        refine px_D_st 1 (ip1 := 20) (ls1 := [(0, .inr (.inr 6)), (1, .inl (x1))]) (st1 := [.inl (0)]) (h1 := (px_G1, s)) rfl ?_
        cases h
        exact px_D_iret rfl rfl ⟨rfl, rfl⟩
      · have hc6 : ¬ ((q5) = (0)) := of_decide_eq_false hc
        rw [if_neg hc6] at h
        refine px_D_st 2 (ip1 := 20) (ls1 := [(0, .inr (.inr 6)), (1, .inl (x1))]) (st1 := [.inl (1)]) (h1 := (px_G1, s)) rfl ?_
        cases h
        exact px_D_iret rfl rfl ⟨rfl, rfl⟩

def f_World_canPay (s : px_Z) (x1 : Int) (x2 : Int) : Option (Int × px_Z) := if (f_R_within s x1 0 (px_wr ((s 6 1) - 1))) = (0) then some (0, s) else (f_World_mayCome s x1).bind (fun q2 => if (q2) = (0) then some (0, s) else (f_Hills_mudIn s x2 (s 7 4)).bind (fun q4 => if (q4) = ((-1)) then some (0, s) else (f_World_price s x1).bind (fun q6 => if (q6.2 7 1) < (q6.1) then some (0, q6.2) else some (1, q6.2))))
set_option maxHeartbeats 4000000 in
set_option maxRecDepth 100000 in
theorem c_World_canPay {sc : List Int} {d : Nat} {s : px_Z} {x1 : Int} {x2 : Int} {out : Int × px_Z} (h : f_World_canPay s x1 x2 = some out) : px_D sc (d + 5) 95 0 [(0, .inr (.inr 6)), (1, .inl (x1)), (2, .inl (x2))] [] (px_G1, s) (px_Qi out) := by
  unfold f_World_canPay at h
  refine px_D_st 6 (ip1 := 6) (ls1 := [(0, .inr (.inr 6)), (1, .inl (x1)), (2, .inl (x2))]) (st1 := [.inl (px_wr ((s 6 1) - 1)), .inl (0), .inl (x1)]) (h1 := (px_G1, s)) rfl ?_
  refine px_D_call (as := [.inl (x1), .inl (0), .inl (px_wr ((s 6 1) - 1))]) (rest := []) rfl rfl rfl rfl ?_
  refine px_D_mono (c_R_within (d := d + 4) rfl) ?_
  rintro _ _ ⟨rfl, rfl⟩
  show px_D sc (d + 5) 95 7 [(0, .inr (.inr 6)), (1, .inl (x1)), (2, .inl (x2))] [.inl (f_R_within s x1 0 (px_wr ((s 6 1) - 1)))] (px_G1, s) _
  refine px_D_ifc rfl (fun hc => ?_) (fun hc => ?_)
  · have hc1 : (f_R_within s x1 0 (px_wr ((s 6 1) - 1))) = (0) := of_decide_eq_true hc
    rw [if_pos hc1] at h
    refine px_D_st 1 (ip1 := 31) (ls1 := [(0, .inr (.inr 6)), (1, .inl (x1)), (2, .inl (x2))]) (st1 := [.inl (0)]) (h1 := (px_G1, s)) rfl ?_
    cases h
    exact px_D_iret rfl rfl ⟨rfl, rfl⟩
  · have hc1 : ¬ ((f_R_within s x1 0 (px_wr ((s 6 1) - 1))) = (0)) := of_decide_eq_false hc
    rw [if_neg hc1] at h
    refine px_D_st 2 (ip1 := 10) (ls1 := [(0, .inr (.inr 6)), (1, .inl (x1)), (2, .inl (x2))]) (st1 := [.inl (x1), .inr (.inr 6)]) (h1 := (px_G1, s)) rfl ?_
    refine px_D_call (as := [.inr (.inr 6), .inl (x1)]) (rest := []) rfl rfl rfl rfl ?_
    obtain ⟨q2, hq2, h⟩ := Option.bind_eq_some_iff.mp h
    refine px_D_mono (c_World_mayCome (d := d + 2) hq2) ?_
    rintro _ _ ⟨rfl, rfl⟩
    show px_D sc (d + 5) 95 11 [(0, .inr (.inr 6)), (1, .inl (x1)), (2, .inl (x2))] [.inl (q2)] (px_G1, s) _
    refine px_D_ifc rfl (fun hc => ?_) (fun hc => ?_)
    · have hc3 : (q2) = (0) := of_decide_eq_true hc
      rw [if_pos hc3] at h
      refine px_D_st 1 (ip1 := 31) (ls1 := [(0, .inr (.inr 6)), (1, .inl (x1)), (2, .inl (x2))]) (st1 := [.inl (0)]) (h1 := (px_G1, s)) rfl ?_
      cases h
      exact px_D_iret rfl rfl ⟨rfl, rfl⟩
    · have hc3 : ¬ ((q2) = (0)) := of_decide_eq_false hc
      rw [if_neg hc3] at h
      refine px_D_st 6 (ip1 := 18) (ls1 := [(0, .inr (.inr 6)), (1, .inl (x1)), (2, .inl (x2))]) (st1 := [.inl (s 7 4), .inl (x2), .inr (.inr 28)]) (h1 := (px_G1, s)) rfl ?_
      refine px_D_call (as := [.inr (.inr 28), .inl (x2), .inl (s 7 4)]) (rest := []) rfl rfl rfl rfl ?_
      obtain ⟨q4, hq4, h⟩ := Option.bind_eq_some_iff.mp h
      refine px_D_mono (c_Hills_mudIn (d := d + 3) hq4) ?_
      rintro _ _ ⟨rfl, rfl⟩
      show px_D sc (d + 5) 95 19 [(0, .inr (.inr 6)), (1, .inl (x1)), (2, .inl (x2))] [.inl (q4)] (px_G1, s) _
      refine px_D_st 1 (ip1 := 20) (ls1 := [(0, .inr (.inr 6)), (1, .inl (x1)), (2, .inl (x2))]) (st1 := [.inl ((-1)), .inl (q4)]) (h1 := (px_G1, s)) rfl ?_
      refine px_D_icmp rfl (fun hc => ?_) (fun hc => ?_)
      · have hc5 : (q4) = ((-1)) := of_decide_eq_true hc
        rw [if_pos hc5] at h
        refine px_D_st 1 (ip1 := 31) (ls1 := [(0, .inr (.inr 6)), (1, .inl (x1)), (2, .inl (x2))]) (st1 := [.inl (0)]) (h1 := (px_G1, s)) rfl ?_
        cases h
        exact px_D_iret rfl rfl ⟨rfl, rfl⟩
      · have hc5 : ¬ ((q4) = ((-1))) := of_decide_eq_false hc
        rw [if_neg hc5] at h
        refine px_D_st 2 (ip1 := 23) (ls1 := [(0, .inr (.inr 6)), (1, .inl (x1)), (2, .inl (x2))]) (st1 := [.inl (x1), .inr (.inr 6)]) (h1 := (px_G1, s)) rfl ?_
        refine px_D_call (as := [.inr (.inr 6), .inl (x1)]) (rest := []) rfl rfl rfl rfl ?_
        obtain ⟨q6, hq6, h⟩ := Option.bind_eq_some_iff.mp h
        refine px_D_mono (c_World_price (d := d + 0) hq6) ?_
        rintro _ _ ⟨rfl, rfl⟩
        show px_D sc (d + 5) 95 24 [(0, .inr (.inr 6)), (1, .inl (x1)), (2, .inl (x2))] [.inl (q6.1)] (px_G1, q6.2) _
        refine px_D_st 3 (ip1 := 27) (ls1 := [(0, .inr (.inr 6)), (1, .inl (x1)), (2, .inl (x2))]) (st1 := [.inl (q6.2 7 1), .inl (q6.1)]) (h1 := (px_G1, q6.2)) rfl ?_
        refine px_D_icmp rfl (fun hc => ?_) (fun hc => ?_)
        · have hc7 : (q6.2 7 1) < (q6.1) := of_decide_eq_true hc
          rw [if_pos hc7] at h
          refine px_D_st 1 (ip1 := 31) (ls1 := [(0, .inr (.inr 6)), (1, .inl (x1)), (2, .inl (x2))]) (st1 := [.inl (0)]) (h1 := (px_G1, q6.2)) rfl ?_
          cases h
          exact px_D_iret rfl rfl ⟨rfl, rfl⟩
        · have hc7 : ¬ ((q6.2 7 1) < (q6.1)) := of_decide_eq_false hc
          rw [if_neg hc7] at h
          refine px_D_st 2 (ip1 := 31) (ls1 := [(0, .inr (.inr 6)), (1, .inl (x1)), (2, .inl (x2))]) (st1 := [.inl (1)]) (h1 := (px_G1, q6.2)) rfl ?_
          cases h
          exact px_D_iret rfl rfl ⟨rfl, rfl⟩

def f_World_writeLine (s : px_Z) (x1 : Int) (x2 : Int) (x3 : Int) (x4 : Int) : Option (px_Z) := if (120) ≤ (s 7 7) then some s else (if 0 ≤ (px_wr ((s 7 7) * 5)) ∧ (px_wr ((s 7 7) * 5)) < 600 then if 0 ≤ (px_wr ((px_wr ((s 7 7) * 5)) + 1)) ∧ (px_wr ((px_wr ((s 7 7) * 5)) + 1)) < 600 then if 0 ≤ (px_wr ((px_wr ((s 7 7) * 5)) + 2)) ∧ (px_wr ((px_wr ((s 7 7) * 5)) + 2)) < 600 then if 0 ≤ (px_wr ((px_wr ((s 7 7) * 5)) + 3)) ∧ (px_wr ((px_wr ((s 7 7) * 5)) + 3)) < 600 then if 0 ≤ (px_wr ((px_wr ((s 7 7) * 5)) + 4)) ∧ (px_wr ((px_wr ((s 7 7) * 5)) + 4)) < 600 then some (px_up (px_up (px_up (px_up (px_up (px_up s 45 (px_wr ((s 7 7) * 5)).toNat (s 7 4)) 45 (px_wr ((px_wr ((s 7 7) * 5)) + 1)).toNat x1) 45 (px_wr ((px_wr ((s 7 7) * 5)) + 2)).toNat x2) 45 (px_wr ((px_wr ((s 7 7) * 5)) + 3)).toNat x3) 45 (px_wr ((px_wr ((s 7 7) * 5)) + 4)).toNat x4) 7 7 (px_wr (((px_up (px_up (px_up (px_up (px_up s 45 (px_wr ((s 7 7) * 5)).toNat (s 7 4)) 45 (px_wr ((px_wr ((s 7 7) * 5)) + 1)).toNat x1) 45 (px_wr ((px_wr ((s 7 7) * 5)) + 2)).toNat x2) 45 (px_wr ((px_wr ((s 7 7) * 5)) + 3)).toNat x3) 45 (px_wr ((px_wr ((s 7 7) * 5)) + 4)).toNat x4) 7 7) + 1))) else none else none else none else none else none)
set_option maxHeartbeats 4000000 in
set_option maxRecDepth 100000 in
theorem c_World_writeLine {sc : List Int} {d : Nat} {s : px_Z} {x1 : Int} {x2 : Int} {x3 : Int} {x4 : Int} {out : px_Z} (h : f_World_writeLine s x1 x2 x3 x4 = some out) : px_D sc (d + 0) 98 0 [(0, .inr (.inr 6)), (1, .inl (x1)), (2, .inl (x2)), (3, .inl (x3)), (4, .inl (x4))] [] (px_G1, s) (px_Qv out) := by
  unfold f_World_writeLine at h
  refine px_D_st 4 (ip1 := 4) (ls1 := [(0, .inr (.inr 6)), (1, .inl (x1)), (2, .inl (x2)), (3, .inl (x3)), (4, .inl (x4))]) (st1 := [.inl (120), .inl (s 7 7)]) (h1 := (px_G1, s)) rfl ?_
  refine px_D_icmp rfl (fun hc => ?_) (fun hc => ?_)
  · have hc1 : (120) ≤ (s 7 7) := of_decide_eq_true hc
    rw [if_pos hc1] at h
    cases h
    exact px_D_vret rfl ⟨rfl, rfl⟩
  · have hc1 : ¬ ((120) ≤ (s 7 7)) := of_decide_eq_false hc
    rw [if_neg hc1] at h
    refine px_D_st 12 (ip1 := 17) (ls1 := [(5, .inl (px_wr ((s 7 7) * 5))), (0, .inr (.inr 6)), (1, .inl (x1)), (2, .inl (x2)), (3, .inl (x3)), (4, .inl (x4))]) (st1 := [.inl (s 7 4), .inl (px_wr ((s 7 7) * 5)), .inr (.inr 45)]) (h1 := (px_G1, s)) rfl ?_
    by_cases hc2 : 0 ≤ (px_wr ((s 7 7) * 5)) ∧ (px_wr ((s 7 7) * 5)) < 600
    case neg => rw [if_neg hc2] at h; cases h
    rw [if_pos hc2] at h
    refine px_D_iast (k := 40) (n := 600) rfl rfl hc2 ?_
    refine px_D_st 6 (ip1 := 24) (ls1 := [(5, .inl (px_wr ((s 7 7) * 5))), (0, .inr (.inr 6)), (1, .inl (x1)), (2, .inl (x2)), (3, .inl (x3)), (4, .inl (x4))]) (st1 := [.inl (x1), .inl (px_wr ((px_wr ((s 7 7) * 5)) + 1)), .inr (.inr 45)]) (h1 := (px_G1, px_up s 45 (px_wr ((s 7 7) * 5)).toNat (s 7 4))) rfl ?_
    by_cases hc3 : 0 ≤ (px_wr ((px_wr ((s 7 7) * 5)) + 1)) ∧ (px_wr ((px_wr ((s 7 7) * 5)) + 1)) < 600
    case neg => rw [if_neg hc3] at h; cases h
    rw [if_pos hc3] at h
    refine px_D_iast (k := 40) (n := 600) rfl rfl hc3 ?_
    refine px_D_st 6 (ip1 := 31) (ls1 := [(5, .inl (px_wr ((s 7 7) * 5))), (0, .inr (.inr 6)), (1, .inl (x1)), (2, .inl (x2)), (3, .inl (x3)), (4, .inl (x4))]) (st1 := [.inl (x2), .inl (px_wr ((px_wr ((s 7 7) * 5)) + 2)), .inr (.inr 45)]) (h1 := (px_G1, px_up (px_up s 45 (px_wr ((s 7 7) * 5)).toNat (s 7 4)) 45 (px_wr ((px_wr ((s 7 7) * 5)) + 1)).toNat x1)) rfl ?_
    by_cases hc4 : 0 ≤ (px_wr ((px_wr ((s 7 7) * 5)) + 2)) ∧ (px_wr ((px_wr ((s 7 7) * 5)) + 2)) < 600
    case neg => rw [if_neg hc4] at h; cases h
    rw [if_pos hc4] at h
    refine px_D_iast (k := 40) (n := 600) rfl rfl hc4 ?_
    refine px_D_st 6 (ip1 := 38) (ls1 := [(5, .inl (px_wr ((s 7 7) * 5))), (0, .inr (.inr 6)), (1, .inl (x1)), (2, .inl (x2)), (3, .inl (x3)), (4, .inl (x4))]) (st1 := [.inl (x3), .inl (px_wr ((px_wr ((s 7 7) * 5)) + 3)), .inr (.inr 45)]) (h1 := (px_G1, px_up (px_up (px_up s 45 (px_wr ((s 7 7) * 5)).toNat (s 7 4)) 45 (px_wr ((px_wr ((s 7 7) * 5)) + 1)).toNat x1) 45 (px_wr ((px_wr ((s 7 7) * 5)) + 2)).toNat x2)) rfl ?_
    by_cases hc5 : 0 ≤ (px_wr ((px_wr ((s 7 7) * 5)) + 3)) ∧ (px_wr ((px_wr ((s 7 7) * 5)) + 3)) < 600
    case neg => rw [if_neg hc5] at h; cases h
    rw [if_pos hc5] at h
    refine px_D_iast (k := 40) (n := 600) rfl rfl hc5 ?_
    refine px_D_st 6 (ip1 := 45) (ls1 := [(5, .inl (px_wr ((s 7 7) * 5))), (0, .inr (.inr 6)), (1, .inl (x1)), (2, .inl (x2)), (3, .inl (x3)), (4, .inl (x4))]) (st1 := [.inl (x4), .inl (px_wr ((px_wr ((s 7 7) * 5)) + 4)), .inr (.inr 45)]) (h1 := (px_G1, px_up (px_up (px_up (px_up s 45 (px_wr ((s 7 7) * 5)).toNat (s 7 4)) 45 (px_wr ((px_wr ((s 7 7) * 5)) + 1)).toNat x1) 45 (px_wr ((px_wr ((s 7 7) * 5)) + 2)).toNat x2) 45 (px_wr ((px_wr ((s 7 7) * 5)) + 3)).toNat x3)) rfl ?_
    by_cases hc6 : 0 ≤ (px_wr ((px_wr ((s 7 7) * 5)) + 4)) ∧ (px_wr ((px_wr ((s 7 7) * 5)) + 4)) < 600
    case neg => rw [if_neg hc6] at h; cases h
    rw [if_pos hc6] at h
    refine px_D_iast (k := 40) (n := 600) rfl rfl hc6 ?_
    refine px_D_st 7 (ip1 := 53) (ls1 := [(5, .inl (px_wr ((s 7 7) * 5))), (0, .inr (.inr 6)), (1, .inl (x1)), (2, .inl (x2)), (3, .inl (x3)), (4, .inl (x4))]) (st1 := []) (h1 := (px_G1, px_up (px_up (px_up (px_up (px_up (px_up s 45 (px_wr ((s 7 7) * 5)).toNat (s 7 4)) 45 (px_wr ((px_wr ((s 7 7) * 5)) + 1)).toNat x1) 45 (px_wr ((px_wr ((s 7 7) * 5)) + 2)).toNat x2) 45 (px_wr ((px_wr ((s 7 7) * 5)) + 3)).toNat x3) 45 (px_wr ((px_wr ((s 7 7) * 5)) + 4)).toNat x4) 7 7 (px_wr (((px_up (px_up (px_up (px_up (px_up s 45 (px_wr ((s 7 7) * 5)).toNat (s 7 4)) 45 (px_wr ((px_wr ((s 7 7) * 5)) + 1)).toNat x1) 45 (px_wr ((px_wr ((s 7 7) * 5)) + 2)).toNat x2) 45 (px_wr ((px_wr ((s 7 7) * 5)) + 3)).toNat x3) 45 (px_wr ((px_wr ((s 7 7) * 5)) + 4)).toNat x4) 7 7) + 1)))) rfl ?_
    cases h
    exact px_D_vret rfl ⟨rfl, rfl⟩

def f_World_payFor (s : px_Z) (x1 : Int) (x2 : Int) : Option (Int × px_Z) := (f_World_price s x1).bind (fun q1 => if 0 ≤ (x1) ∧ (x1) < 8 then if 0 ≤ (x1) ∧ (x1) < 8 then if 0 ≤ (x1) ∧ (x1) < 8 then (f_World_writeLine (px_up (px_up (px_up (px_up (px_up (px_up q1.2 7 1 (px_wr ((q1.2 7 1) - q1.1))) 10 x1.toNat q1.1) 9 x1.toNat 1) 11 x1.toNat x2) 7 5 x1) 7 6 1) 0 x1 q1.1 x2).bind (fun q5 => some (q1.1, q5)) else none else none else none)
set_option maxHeartbeats 4000000 in
set_option maxRecDepth 100000 in
theorem c_World_payFor {sc : List Int} {d : Nat} {s : px_Z} {x1 : Int} {x2 : Int} {out : Int × px_Z} (h : f_World_payFor s x1 x2 = some out) : px_D sc (d + 5) 96 0 [(0, .inr (.inr 6)), (1, .inl (x1)), (2, .inl (x2))] [] (px_G1, s) (px_Qi out) := by
  unfold f_World_payFor at h
  refine px_D_st 2 (ip1 := 2) (ls1 := [(0, .inr (.inr 6)), (1, .inl (x1)), (2, .inl (x2))]) (st1 := [.inl (x1), .inr (.inr 6)]) (h1 := (px_G1, s)) rfl ?_
  refine px_D_call (as := [.inr (.inr 6), .inl (x1)]) (rest := []) rfl rfl rfl rfl ?_
  obtain ⟨q1, hq1, h⟩ := Option.bind_eq_some_iff.mp h
  refine px_D_mono (c_World_price (d := d + 0) hq1) ?_
  rintro _ _ ⟨rfl, rfl⟩
  show px_D sc (d + 5) 96 3 [(0, .inr (.inr 6)), (1, .inl (x1)), (2, .inl (x2))] [.inl (q1.1)] (px_G1, q1.2) _
  refine px_D_st 13 (ip1 := 16) (ls1 := [(3, .inl (q1.1)), (0, .inr (.inr 6)), (1, .inl (x1)), (2, .inl (x2))]) (st1 := [.inl (q1.1), .inl (x1), .inr (.inr 10)]) (h1 := (px_G1, px_up q1.2 7 1 (px_wr ((q1.2 7 1) - q1.1)))) rfl ?_
  by_cases hc2 : 0 ≤ (x1) ∧ (x1) < 8
  case neg => rw [if_neg hc2] at h; cases h
  rw [if_pos hc2] at h
  refine px_D_iast (k := 5) (n := 8) rfl rfl hc2 ?_
  refine px_D_st 5 (ip1 := 22) (ls1 := [(3, .inl (q1.1)), (0, .inr (.inr 6)), (1, .inl (x1)), (2, .inl (x2))]) (st1 := [.inl (1), .inl (x1), .inr (.inr 9)]) (h1 := (px_G1, px_up (px_up q1.2 7 1 (px_wr ((q1.2 7 1) - q1.1))) 10 x1.toNat q1.1)) rfl ?_
  by_cases hc3 : 0 ≤ (x1) ∧ (x1) < 8
  case neg => rw [if_neg hc3] at h; cases h
  rw [if_pos hc3] at h
  refine px_D_iast (k := 4) (n := 8) rfl rfl hc3 ?_
  refine px_D_st 5 (ip1 := 28) (ls1 := [(3, .inl (q1.1)), (0, .inr (.inr 6)), (1, .inl (x1)), (2, .inl (x2))]) (st1 := [.inl (x2), .inl (x1), .inr (.inr 11)]) (h1 := (px_G1, px_up (px_up (px_up q1.2 7 1 (px_wr ((q1.2 7 1) - q1.1))) 10 x1.toNat q1.1) 9 x1.toNat 1)) rfl ?_
  by_cases hc4 : 0 ≤ (x1) ∧ (x1) < 8
  case neg => rw [if_neg hc4] at h; cases h
  rw [if_pos hc4] at h
  refine px_D_iast (k := 6) (n := 8) rfl rfl hc4 ?_
  refine px_D_st 13 (ip1 := 42) (ls1 := [(3, .inl (q1.1)), (0, .inr (.inr 6)), (1, .inl (x1)), (2, .inl (x2))]) (st1 := [.inl (x2), .inl (q1.1), .inl (x1), .inl (0), .inr (.inr 6)]) (h1 := (px_G1, px_up (px_up (px_up (px_up (px_up (px_up q1.2 7 1 (px_wr ((q1.2 7 1) - q1.1))) 10 x1.toNat q1.1) 9 x1.toNat 1) 11 x1.toNat x2) 7 5 x1) 7 6 1)) rfl ?_
  refine px_D_call (as := [.inr (.inr 6), .inl (0), .inl (x1), .inl (q1.1), .inl (x2)]) (rest := []) rfl rfl rfl rfl ?_
  obtain ⟨q5, hq5, h⟩ := Option.bind_eq_some_iff.mp h
  refine px_D_mono (c_World_writeLine (d := d + 4) hq5) ?_
  rintro _ _ ⟨rfl, rfl⟩
  show px_D sc (d + 5) 96 43 [(3, .inl (q1.1)), (0, .inr (.inr 6)), (1, .inl (x1)), (2, .inl (x2))] [] (px_G1, q5) _
  refine px_D_st 1 (ip1 := 44) (ls1 := [(3, .inl (q1.1)), (0, .inr (.inr 6)), (1, .inl (x1)), (2, .inl (x2))]) (st1 := [.inl (q1.1)]) (h1 := (px_G1, q5)) rfl ?_
  cases h
  exact px_D_iret rfl rfl ⟨rfl, rfl⟩

def f_R_pay (s : px_Z) (x1 : Int) (x2 : Int) : Option (Int × px_Z) := (f_World_canPay s x1 x2).bind (fun q1 => if (q1.1) = (0) then some (((-1), q1.2)) else (f_R_rememberDeed q1.2 ).bind (fun q3 => (f_World_payFor q3 x1 x2).bind (fun q4 => some (q4.1, q4.2))))
set_option maxHeartbeats 4000000 in
set_option maxRecDepth 100000 in
theorem c_R_pay {sc : List Int} {d : Nat} {s : px_Z} {x1 : Int} {x2 : Int} {out : Int × px_Z} (h : f_R_pay s x1 x2 = some out) : px_D sc (d + 6) 117 0 [(0, .inr (.inr 5)), (1, .inl (x1)), (2, .inl (x2))] [] (px_G1, s) (px_Qi out) := by
  unfold f_R_pay at h
  refine px_D_st 4 (ip1 := 4) (ls1 := [(0, .inr (.inr 5)), (1, .inl (x1)), (2, .inl (x2))]) (st1 := [.inl (x2), .inl (x1), .inr (.inr 6)]) (h1 := (px_G1, s)) rfl ?_
  refine px_D_call (as := [.inr (.inr 6), .inl (x1), .inl (x2)]) (rest := []) rfl rfl rfl rfl ?_
  obtain ⟨q1, hq1, h⟩ := Option.bind_eq_some_iff.mp h
  refine px_D_mono (c_World_canPay (d := d + 0) hq1) ?_
  rintro _ _ ⟨rfl, rfl⟩
  show px_D sc (d + 6) 117 5 [(0, .inr (.inr 5)), (1, .inl (x1)), (2, .inl (x2))] [.inl (q1.1)] (px_G1, q1.2) _
  refine px_D_ifc rfl (fun hc => ?_) (fun hc => ?_)
  · have hc2 : ¬ ((q1.1) = (0)) := of_decide_eq_true hc
    rw [if_neg hc2] at h
    refine px_D_st 1 (ip1 := 9) (ls1 := [(0, .inr (.inr 5)), (1, .inl (x1)), (2, .inl (x2))]) (st1 := [.inr (.inr 5)]) (h1 := (px_G1, q1.2)) rfl ?_
    refine px_D_call (as := [.inr (.inr 5)]) (rest := []) rfl rfl rfl rfl ?_
    obtain ⟨q3, hq3, h⟩ := Option.bind_eq_some_iff.mp h
    refine px_D_mono (c_R_rememberDeed (d := d + 3) hq3) ?_
    rintro _ _ ⟨rfl, rfl⟩
    show px_D sc (d + 6) 117 10 [(0, .inr (.inr 5)), (1, .inl (x1)), (2, .inl (x2))] [] (px_G1, q3) _
    refine px_D_st 4 (ip1 := 14) (ls1 := [(0, .inr (.inr 5)), (1, .inl (x1)), (2, .inl (x2))]) (st1 := [.inl (x2), .inl (x1), .inr (.inr 6)]) (h1 := (px_G1, q3)) rfl ?_
    refine px_D_call (as := [.inr (.inr 6), .inl (x1), .inl (x2)]) (rest := []) rfl rfl rfl rfl ?_
    obtain ⟨q4, hq4, h⟩ := Option.bind_eq_some_iff.mp h
    refine px_D_mono (c_World_payFor (d := d + 0) hq4) ?_
    rintro _ _ ⟨rfl, rfl⟩
    show px_D sc (d + 6) 117 15 [(0, .inr (.inr 5)), (1, .inl (x1)), (2, .inl (x2))] [.inl (q4.1)] (px_G1, q4.2) _
    cases h
    exact px_D_iret rfl rfl ⟨rfl, rfl⟩
  · have hc2 : (q1.1) = (0) := Decidable.of_not_not (of_decide_eq_false hc)
    rw [if_pos hc2] at h
    refine px_D_st 1 (ip1 := 7) (ls1 := [(0, .inr (.inr 5)), (1, .inl (x1)), (2, .inl (x2))]) (st1 := [.inl ((-1))]) (h1 := (px_G1, q1.2)) rfl ?_
    cases h
    exact px_D_iret rfl rfl ⟨rfl, rfl⟩

def f_World_cryBy (s : px_Z) (x1 : Int) : Option (px_Z) := (f_World_writeLine (px_up s 7 3 (f_Math_min s 99 (px_wr ((s 7 3) + x1)))) 1 x1 0 (-1)).bind (fun q1 => some q1)
set_option maxHeartbeats 4000000 in
set_option maxRecDepth 100000 in
theorem c_World_cryBy {sc : List Int} {d : Nat} {s : px_Z} {x1 : Int} {out : px_Z} (h : f_World_cryBy s x1 = some out) : px_D sc (d + 1) 97 0 [(0, .inr (.inr 6)), (1, .inl (x1))] [] (px_G1, s) (px_Qv out) := by
  unfold f_World_cryBy at h
  refine px_D_st 8 (ip1 := 8) (ls1 := [(0, .inr (.inr 6)), (1, .inl (x1))]) (st1 := [.inl (px_wr ((s 7 3) + x1)), .inl (99), .inr (.inr 7)]) (h1 := (px_G1, s)) rfl ?_
  refine px_D_call (as := [.inl (99), .inl (px_wr ((s 7 3) + x1))]) (rest := [.inr (.inr 7)]) rfl rfl rfl rfl ?_
  refine px_D_mono (c_Math_min (d := d + 0) rfl) ?_
  rintro _ _ ⟨rfl, rfl⟩
  show px_D sc (d + 1) 97 9 [(0, .inr (.inr 6)), (1, .inl (x1))] [.inl (f_Math_min s 99 (px_wr ((s 7 3) + x1))), .inr (.inr 7)] (px_G1, s) _
  refine px_D_st 6 (ip1 := 15) (ls1 := [(0, .inr (.inr 6)), (1, .inl (x1))]) (st1 := [.inl ((-1)), .inl (0), .inl (x1), .inl (1), .inr (.inr 6)]) (h1 := (px_G1, px_up s 7 3 (f_Math_min s 99 (px_wr ((s 7 3) + x1))))) rfl ?_
  refine px_D_call (as := [.inr (.inr 6), .inl (1), .inl (x1), .inl (0), .inl ((-1))]) (rest := []) rfl rfl rfl rfl ?_
  obtain ⟨q1, hq1, h⟩ := Option.bind_eq_some_iff.mp h
  refine px_D_mono (c_World_writeLine (d := d + 0) hq1) ?_
  rintro _ _ ⟨rfl, rfl⟩
  show px_D sc (d + 1) 97 16 [(0, .inr (.inr 6)), (1, .inl (x1))] [] (px_G1, q1) _
  cases h
  exact px_D_vret rfl ⟨rfl, rfl⟩

def f_R_cry (s : px_Z) (x1 : Int) : Option (Int × px_Z) := if (f_R_within s x1 1 20) = (0) then some (((-1), s)) else (f_R_rememberDeed s ).bind (fun q2 => (f_World_cryBy q2 x1).bind (fun q3 => some (q3 7 3, q3)))
set_option maxHeartbeats 4000000 in
set_option maxRecDepth 100000 in
theorem c_R_cry {sc : List Int} {d : Nat} {s : px_Z} {x1 : Int} {out : Int × px_Z} (h : f_R_cry s x1 = some out) : px_D sc (d + 3) 118 0 [(0, .inr (.inr 5)), (1, .inl (x1))] [] (px_G1, s) (px_Qi out) := by
  unfold f_R_cry at h
  refine px_D_st 3 (ip1 := 3) (ls1 := [(0, .inr (.inr 5)), (1, .inl (x1))]) (st1 := [.inl (20), .inl (1), .inl (x1)]) (h1 := (px_G1, s)) rfl ?_
  refine px_D_call (as := [.inl (x1), .inl (1), .inl (20)]) (rest := []) rfl rfl rfl rfl ?_
  refine px_D_mono (c_R_within (d := d + 2) rfl) ?_
  rintro _ _ ⟨rfl, rfl⟩
  show px_D sc (d + 3) 118 4 [(0, .inr (.inr 5)), (1, .inl (x1))] [.inl (f_R_within s x1 1 20)] (px_G1, s) _
  refine px_D_ifc rfl (fun hc => ?_) (fun hc => ?_)
  · have hc1 : ¬ ((f_R_within s x1 1 20) = (0)) := of_decide_eq_true hc
    rw [if_neg hc1] at h
    refine px_D_st 1 (ip1 := 8) (ls1 := [(0, .inr (.inr 5)), (1, .inl (x1))]) (st1 := [.inr (.inr 5)]) (h1 := (px_G1, s)) rfl ?_
    refine px_D_call (as := [.inr (.inr 5)]) (rest := []) rfl rfl rfl rfl ?_
    obtain ⟨q2, hq2, h⟩ := Option.bind_eq_some_iff.mp h
    refine px_D_mono (c_R_rememberDeed (d := d + 0) hq2) ?_
    rintro _ _ ⟨rfl, rfl⟩
    show px_D sc (d + 3) 118 9 [(0, .inr (.inr 5)), (1, .inl (x1))] [] (px_G1, q2) _
    refine px_D_st 3 (ip1 := 12) (ls1 := [(0, .inr (.inr 5)), (1, .inl (x1))]) (st1 := [.inl (x1), .inr (.inr 6)]) (h1 := (px_G1, q2)) rfl ?_
    refine px_D_call (as := [.inr (.inr 6), .inl (x1)]) (rest := []) rfl rfl rfl rfl ?_
    obtain ⟨q3, hq3, h⟩ := Option.bind_eq_some_iff.mp h
    refine px_D_mono (c_World_cryBy (d := d + 1) hq3) ?_
    rintro _ _ ⟨rfl, rfl⟩
    show px_D sc (d + 3) 118 13 [(0, .inr (.inr 5)), (1, .inl (x1))] [] (px_G1, q3) _
    refine px_D_st 4 (ip1 := 17) (ls1 := [(0, .inr (.inr 5)), (1, .inl (x1))]) (st1 := [.inl (q3 7 3)]) (h1 := (px_G1, q3)) rfl ?_
    cases h
    exact px_D_iret rfl rfl ⟨rfl, rfl⟩
  · have hc1 : (f_R_within s x1 1 20) = (0) := Decidable.of_not_not (of_decide_eq_false hc)
    rw [if_pos hc1] at h
    refine px_D_st 1 (ip1 := 6) (ls1 := [(0, .inr (.inr 5)), (1, .inl (x1))]) (st1 := [.inl ((-1))]) (h1 := (px_G1, s)) rfl ?_
    cases h
    exact px_D_iret rfl rfl ⟨rfl, rfl⟩

def l_Law_run_2_4 (k87 : px_Z → Int → Option (Int × px_Z)) : Nat → px_Z → Int → Int → Int → Option (Int × px_Z)
  | 0, _, _, _, _ => none
  | n + 1, s, x2, x4, x5 => if (x2) ≤ (x5) then k87 s x4 else (if 0 ≤ (x5) ∧ (x5) < 400 then if (1000) ≤ (s 26 x5.toNat) then (if (32) ≤ (x4) then l_Law_run_2_4 k87 n s x2 x4 (px_wr (x5 + 1)) else (if (s 26 x5.toNat) < (1000) then (if 0 ≤ (px_wr ((s 26 x5.toNat) - 256)) ∧ (px_wr ((s 26 x5.toNat) - 256)) < 9 then if 0 ≤ (x4) ∧ (x4) < 32 then l_Law_run_2_4 k87 n (px_up s 27 x4.toNat (s 46 (px_wr ((s 26 x5.toNat) - 256)).toNat)) x2 (px_wr (x4 + 1)) (px_wr (x5 + 1)) else none else none) else (if 0 ≤ (x4) ∧ (x4) < 32 then l_Law_run_2_4 k87 n (px_up s 27 x4.toNat (px_wr ((s 26 x5.toNat) - 1000))) x2 (px_wr (x4 + 1)) (px_wr (x5 + 1)) else none))) else (if (f_R_within s (s 26 x5.toNat) 256 264) = (0) then (if (s 26 x5.toNat) = (272) then (if (x4) ≤ (0) then l_Law_run_2_4 k87 n s x2 x4 (px_wr (x5 + 1)) else (if 0 ≤ (px_wr (x4 - 1)) ∧ (px_wr (x4 - 1)) < 32 then if 0 ≤ (px_wr (x4 - 1)) ∧ (px_wr (x4 - 1)) < 32 then l_Law_run_2_4 k87 n (px_up s 27 (px_wr (x4 - 1)).toNat (px_wr (1 - (s 27 (px_wr (x4 - 1)).toNat)))) x2 x4 (px_wr (x5 + 1)) else none else none)) else (if (x4) ≤ (1) then l_Law_run_2_4 k87 n s x2 x4 (px_wr (x5 + 1)) else (if 0 ≤ (px_wr ((px_wr (x4 + (-1))) - 1)) ∧ (px_wr ((px_wr (x4 + (-1))) - 1)) < 32 then if 0 ≤ (px_wr (x4 + (-1))) ∧ (px_wr (x4 + (-1))) < 32 then (f_Law_joined s (s 26 x5.toNat) (s 27 (px_wr ((px_wr (x4 + (-1))) - 1)).toNat) (s 27 (px_wr (x4 + (-1))).toNat)).bind (fun q14 => if 0 ≤ (px_wr ((px_wr (x4 + (-1))) - 1)) ∧ (px_wr ((px_wr (x4 + (-1))) - 1)) < 32 then l_Law_run_2_4 k87 n (px_up s 27 (px_wr ((px_wr (x4 + (-1))) - 1)).toNat q14) x2 (px_wr (x4 + (-1))) (px_wr (x5 + 1)) else none) else none else none))) else (if (32) ≤ (x4) then l_Law_run_2_4 k87 n s x2 x4 (px_wr (x5 + 1)) else (if (s 26 x5.toNat) < (1000) then (if 0 ≤ (px_wr ((s 26 x5.toNat) - 256)) ∧ (px_wr ((s 26 x5.toNat) - 256)) < 9 then if 0 ≤ (x4) ∧ (x4) < 32 then l_Law_run_2_4 k87 n (px_up s 27 x4.toNat (s 46 (px_wr ((s 26 x5.toNat) - 256)).toNat)) x2 (px_wr (x4 + 1)) (px_wr (x5 + 1)) else none else none) else (if 0 ≤ (x4) ∧ (x4) < 32 then l_Law_run_2_4 k87 n (px_up s 27 x4.toNat (px_wr ((s 26 x5.toNat) - 1000))) x2 (px_wr (x4 + 1)) (px_wr (x5 + 1)) else none)))) else none)
set_option maxHeartbeats 4000000 in
set_option maxRecDepth 100000 in
theorem cl_Law_run_2_4 {sc : List Int} {d : Nat} {k87 : px_Z → Int → Option (Int × px_Z)}  (hk87 : ∀ (s : px_Z) (y4 : Int) (out : Int × px_Z), k87 s y4 = some out → px_D sc (d + 1) 18 87 [(0, .inr (.inr 21)), (4, .inl (y4))] [] (px_G1, s) (px_Qi out)) : ∀ (n : Nat) (s : px_Z) (x2 : Int) (x4 : Int) (x5 : Int) (out : Int × px_Z), l_Law_run_2_4 k87 n s x2 x4 x5 = some out → px_D sc (d + 1) 18 4 [(0, .inr (.inr 21)), (2, .inl (x2)), (3, .inr (.inr 46)), (4, .inl (x4)), (5, .inl (x5))] [] (px_G1, s) (px_Qi out) := by
  intro n
  induction n with
  | zero => intro s x2 x4 x5 out h; cases h
  | succ n ih =>
    intro s x2 x4 x5 out h
    rw [l_Law_run_2_4] at h
    refine px_D_st 2 (ip1 := 6) (ls1 := [(0, .inr (.inr 21)), (2, .inl (x2)), (3, .inr (.inr 46)), (4, .inl (x4)), (5, .inl (x5))]) (st1 := [.inl (x2), .inl (x5)]) (h1 := (px_G1, s)) rfl ?_
    refine px_D_icmp rfl (fun hc => ?_) (fun hc => ?_)
    · have hc1 : (x2) ≤ (x5) := of_decide_eq_true hc
      rw [if_pos hc1] at h
      refine px_D_ls [(0, .inr (.inr 21)), (4, .inl (x4))] rfl rfl (List.forall_mem_cons.mpr ⟨rfl, List.forall_mem_cons.mpr ⟨rfl, fun _ h => absurd h List.not_mem_nil⟩⟩) ?_
      exact hk87 _ _ _ h
    · have hc1 : ¬ ((x2) ≤ (x5)) := of_decide_eq_false hc
      rw [if_neg hc1] at h
      refine px_D_st 3 (ip1 := 10) (ls1 := [(0, .inr (.inr 21)), (2, .inl (x2)), (3, .inr (.inr 46)), (4, .inl (x4)), (5, .inl (x5))]) (st1 := [.inl (x5), .inr (.inr 26)]) (h1 := (px_G1, s)) rfl ?_
      by_cases hc2 : 0 ≤ (x5) ∧ (x5) < 400
      case neg => rw [if_neg hc2] at h; cases h
      rw [if_pos hc2] at h
      refine px_D_iald (k := 21) (n := 400) rfl rfl hc2 ?_
      refine px_D_st 3 (ip1 := 14) (ls1 := [(6, .inl (s 26 x5.toNat)), (0, .inr (.inr 21)), (2, .inl (x2)), (3, .inr (.inr 46)), (4, .inl (x4)), (5, .inl (x5))]) (st1 := [.inl (1000), .inl (s 26 x5.toNat)]) (h1 := (px_G1, s)) rfl ?_
      refine px_D_icmp rfl (fun hc => ?_) (fun hc => ?_)
      · have hc3 : (1000) ≤ (s 26 x5.toNat) := of_decide_eq_true hc
        rw [if_pos hc3] at h
        refine px_D_st 4 (ip1 := 24) (ls1 := [(6, .inl (s 26 x5.toNat)), (0, .inr (.inr 21)), (2, .inl (x2)), (3, .inr (.inr 46)), (4, .inl (x4)), (5, .inl (x5))]) (st1 := [.inl (32), .inl (x4)]) (h1 := (px_G1, s)) rfl ?_
        refine px_D_icmp rfl (fun hc => ?_) (fun hc => ?_)
        · have hc4 : (32) ≤ (x4) := of_decide_eq_true hc
          rw [if_pos hc4] at h
          refine px_D_st 2 (ip1 := 4) (ls1 := [(5, .inl (px_wr (x5 + 1))), (6, .inl (s 26 x5.toNat)), (0, .inr (.inr 21)), (2, .inl (x2)), (3, .inr (.inr 46)), (4, .inl (x4))]) (st1 := []) (h1 := (px_G1, s)) rfl ?_
          refine px_D_ls [(0, .inr (.inr 21)), (2, .inl (x2)), (3, .inr (.inr 46)), (4, .inl (x4)), (5, .inl (px_wr (x5 + 1)))] rfl rfl (List.forall_mem_cons.mpr ⟨rfl, List.forall_mem_cons.mpr ⟨rfl, List.forall_mem_cons.mpr ⟨rfl, List.forall_mem_cons.mpr ⟨rfl, List.forall_mem_cons.mpr ⟨rfl, fun _ h => absurd h List.not_mem_nil⟩⟩⟩⟩⟩) ?_
          exact ih _ _ _ _ _ h
        · have hc4 : ¬ ((32) ≤ (x4)) := of_decide_eq_false hc
          rw [if_neg hc4] at h
          refine px_D_st 5 (ip1 := 30) (ls1 := [(6, .inl (s 26 x5.toNat)), (0, .inr (.inr 21)), (2, .inl (x2)), (3, .inr (.inr 46)), (4, .inl (x4)), (5, .inl (x5))]) (st1 := [.inl (1000), .inl (s 26 x5.toNat), .inl (x4), .inr (.inr 27)]) (h1 := (px_G1, s)) rfl ?_
          refine px_D_icmp rfl (fun hc => ?_) (fun hc => ?_)
          · have hc5 : (s 26 x5.toNat) < (1000) := of_decide_eq_true hc
            rw [if_pos hc5] at h
            refine px_D_st 4 (ip1 := 39) (ls1 := [(6, .inl (s 26 x5.toNat)), (0, .inr (.inr 21)), (2, .inl (x2)), (3, .inr (.inr 46)), (4, .inl (x4)), (5, .inl (x5))]) (st1 := [.inl (px_wr ((s 26 x5.toNat) - 256)), .inr (.inr 46), .inl (x4), .inr (.inr 27)]) (h1 := (px_G1, s)) rfl ?_
            by_cases hc6 : 0 ≤ (px_wr ((s 26 x5.toNat) - 256)) ∧ (px_wr ((s 26 x5.toNat) - 256)) < 9
            case neg => rw [if_neg hc6] at h; cases h
            rw [if_pos hc6] at h
            refine px_D_iald (k := 41) (n := 9) rfl rfl hc6 ?_
            by_cases hc7 : 0 ≤ (x4) ∧ (x4) < 32
            case neg => rw [if_neg hc7] at h; cases h
            rw [if_pos hc7] at h
            refine px_D_iast (k := 22) (n := 32) rfl rfl hc7 ?_
            refine px_D_st 4 (ip1 := 4) (ls1 := [(5, .inl (px_wr (x5 + 1))), (4, .inl (px_wr (x4 + 1))), (6, .inl (s 26 x5.toNat)), (0, .inr (.inr 21)), (2, .inl (x2)), (3, .inr (.inr 46))]) (st1 := []) (h1 := (px_G1, px_up s 27 x4.toNat (s 46 (px_wr ((s 26 x5.toNat) - 256)).toNat))) rfl ?_
            refine px_D_ls [(0, .inr (.inr 21)), (2, .inl (x2)), (3, .inr (.inr 46)), (4, .inl (px_wr (x4 + 1))), (5, .inl (px_wr (x5 + 1)))] rfl rfl (List.forall_mem_cons.mpr ⟨rfl, List.forall_mem_cons.mpr ⟨rfl, List.forall_mem_cons.mpr ⟨rfl, List.forall_mem_cons.mpr ⟨rfl, List.forall_mem_cons.mpr ⟨rfl, fun _ h => absurd h List.not_mem_nil⟩⟩⟩⟩⟩) ?_
            exact ih _ _ _ _ _ h
          · have hc5 : ¬ ((s 26 x5.toNat) < (1000)) := of_decide_eq_false hc
            rw [if_neg hc5] at h
            refine px_D_st 4 (ip1 := 40) (ls1 := [(6, .inl (s 26 x5.toNat)), (0, .inr (.inr 21)), (2, .inl (x2)), (3, .inr (.inr 46)), (4, .inl (x4)), (5, .inl (x5))]) (st1 := [.inl (px_wr ((s 26 x5.toNat) - 1000)), .inl (x4), .inr (.inr 27)]) (h1 := (px_G1, s)) rfl ?_
            by_cases hc8 : 0 ≤ (x4) ∧ (x4) < 32
            case neg => rw [if_neg hc8] at h; cases h
            rw [if_pos hc8] at h
            refine px_D_iast (k := 22) (n := 32) rfl rfl hc8 ?_
            refine px_D_st 4 (ip1 := 4) (ls1 := [(5, .inl (px_wr (x5 + 1))), (4, .inl (px_wr (x4 + 1))), (6, .inl (s 26 x5.toNat)), (0, .inr (.inr 21)), (2, .inl (x2)), (3, .inr (.inr 46))]) (st1 := []) (h1 := (px_G1, px_up s 27 x4.toNat (px_wr ((s 26 x5.toNat) - 1000)))) rfl ?_
            refine px_D_ls [(0, .inr (.inr 21)), (2, .inl (x2)), (3, .inr (.inr 46)), (4, .inl (px_wr (x4 + 1))), (5, .inl (px_wr (x5 + 1)))] rfl rfl (List.forall_mem_cons.mpr ⟨rfl, List.forall_mem_cons.mpr ⟨rfl, List.forall_mem_cons.mpr ⟨rfl, List.forall_mem_cons.mpr ⟨rfl, List.forall_mem_cons.mpr ⟨rfl, fun _ h => absurd h List.not_mem_nil⟩⟩⟩⟩⟩) ?_
            exact ih _ _ _ _ _ h
      · have hc3 : ¬ ((1000) ≤ (s 26 x5.toNat)) := of_decide_eq_false hc
        rw [if_neg hc3] at h
        refine px_D_st 3 (ip1 := 18) (ls1 := [(6, .inl (s 26 x5.toNat)), (0, .inr (.inr 21)), (2, .inl (x2)), (3, .inr (.inr 46)), (4, .inl (x4)), (5, .inl (x5))]) (st1 := [.inl (264), .inl (256), .inl (s 26 x5.toNat)]) (h1 := (px_G1, s)) rfl ?_
        refine px_D_call (as := [.inl (s 26 x5.toNat), .inl (256), .inl (264)]) (rest := []) rfl rfl rfl rfl ?_
        refine px_D_mono (c_R_within (d := d + 0) rfl) ?_
        rintro _ _ ⟨rfl, rfl⟩
        show px_D sc (d + 1) 18 19 [(6, .inl (s 26 x5.toNat)), (0, .inr (.inr 21)), (2, .inl (x2)), (3, .inr (.inr 46)), (4, .inl (x4)), (5, .inl (x5))] [.inl (f_R_within s (s 26 x5.toNat) 256 264)] (px_G1, s) _
        refine px_D_ifc rfl (fun hc => ?_) (fun hc => ?_)
        · have hc9 : (f_R_within s (s 26 x5.toNat) 256 264) = (0) := of_decide_eq_true hc
          rw [if_pos hc9] at h
          refine px_D_st 2 (ip1 := 45) (ls1 := [(6, .inl (s 26 x5.toNat)), (0, .inr (.inr 21)), (2, .inl (x2)), (3, .inr (.inr 46)), (4, .inl (x4)), (5, .inl (x5))]) (st1 := [.inl (272), .inl (s 26 x5.toNat)]) (h1 := (px_G1, s)) rfl ?_
          refine px_D_icmp rfl (fun hc => ?_) (fun hc => ?_)
          · have hc10 : ¬ ((s 26 x5.toNat) = (272)) := of_decide_eq_true hc
            rw [if_neg hc10] at h
            refine px_D_st 2 (ip1 := 65) (ls1 := [(6, .inl (s 26 x5.toNat)), (0, .inr (.inr 21)), (2, .inl (x2)), (3, .inr (.inr 46)), (4, .inl (x4)), (5, .inl (x5))]) (st1 := [.inl (1), .inl (x4)]) (h1 := (px_G1, s)) rfl ?_
            refine px_D_icmp rfl (fun hc => ?_) (fun hc => ?_)
            · have hc11 : (x4) ≤ (1) := of_decide_eq_true hc
              rw [if_pos hc11] at h
              refine px_D_st 2 (ip1 := 4) (ls1 := [(5, .inl (px_wr (x5 + 1))), (6, .inl (s 26 x5.toNat)), (0, .inr (.inr 21)), (2, .inl (x2)), (3, .inr (.inr 46)), (4, .inl (x4))]) (st1 := []) (h1 := (px_G1, s)) rfl ?_
              refine px_D_ls [(0, .inr (.inr 21)), (2, .inl (x2)), (3, .inr (.inr 46)), (4, .inl (x4)), (5, .inl (px_wr (x5 + 1)))] rfl rfl (List.forall_mem_cons.mpr ⟨rfl, List.forall_mem_cons.mpr ⟨rfl, List.forall_mem_cons.mpr ⟨rfl, List.forall_mem_cons.mpr ⟨rfl, List.forall_mem_cons.mpr ⟨rfl, fun _ h => absurd h List.not_mem_nil⟩⟩⟩⟩⟩) ?_
              exact ih _ _ _ _ _ h
            · have hc11 : ¬ ((x4) ≤ (1)) := of_decide_eq_false hc
              rw [if_neg hc11] at h
              refine px_D_st 12 (ip1 := 78) (ls1 := [(4, .inl (px_wr (x4 + (-1)))), (6, .inl (s 26 x5.toNat)), (0, .inr (.inr 21)), (2, .inl (x2)), (3, .inr (.inr 46)), (5, .inl (x5))]) (st1 := [.inl (px_wr ((px_wr (x4 + (-1))) - 1)), .inr (.inr 27), .inl (s 26 x5.toNat), .inl (px_wr ((px_wr (x4 + (-1))) - 1)), .inr (.inr 27)]) (h1 := (px_G1, s)) rfl ?_
              by_cases hc12 : 0 ≤ (px_wr ((px_wr (x4 + (-1))) - 1)) ∧ (px_wr ((px_wr (x4 + (-1))) - 1)) < 32
              case neg => rw [if_neg hc12] at h; cases h
              rw [if_pos hc12] at h
              refine px_D_iald (k := 22) (n := 32) rfl rfl hc12 ?_
              refine px_D_st 3 (ip1 := 82) (ls1 := [(4, .inl (px_wr (x4 + (-1)))), (6, .inl (s 26 x5.toNat)), (0, .inr (.inr 21)), (2, .inl (x2)), (3, .inr (.inr 46)), (5, .inl (x5))]) (st1 := [.inl (px_wr (x4 + (-1))), .inr (.inr 27), .inl (s 27 (px_wr ((px_wr (x4 + (-1))) - 1)).toNat), .inl (s 26 x5.toNat), .inl (px_wr ((px_wr (x4 + (-1))) - 1)), .inr (.inr 27)]) (h1 := (px_G1, s)) rfl ?_
              by_cases hc13 : 0 ≤ (px_wr (x4 + (-1))) ∧ (px_wr (x4 + (-1))) < 32
              case neg => rw [if_neg hc13] at h; cases h
              rw [if_pos hc13] at h
              refine px_D_iald (k := 22) (n := 32) rfl rfl hc13 ?_
              refine px_D_call (as := [.inl (s 26 x5.toNat), .inl (s 27 (px_wr ((px_wr (x4 + (-1))) - 1)).toNat), .inl (s 27 (px_wr (x4 + (-1))).toNat)]) (rest := [.inl (px_wr ((px_wr (x4 + (-1))) - 1)), .inr (.inr 27)]) rfl rfl rfl rfl ?_
              obtain ⟨q14, hq14, h⟩ := Option.bind_eq_some_iff.mp h
              refine px_D_mono (c_Law_joined (d := d + 0) hq14) ?_
              rintro _ _ ⟨rfl, rfl⟩
              show px_D sc (d + 1) 18 84 [(4, .inl (px_wr (x4 + (-1)))), (6, .inl (s 26 x5.toNat)), (0, .inr (.inr 21)), (2, .inl (x2)), (3, .inr (.inr 46)), (5, .inl (x5))] [.inl (q14), .inl (px_wr ((px_wr (x4 + (-1))) - 1)), .inr (.inr 27)] (px_G1, s) _
              by_cases hc15 : 0 ≤ (px_wr ((px_wr (x4 + (-1))) - 1)) ∧ (px_wr ((px_wr (x4 + (-1))) - 1)) < 32
              case neg => rw [if_neg hc15] at h; cases h
              rw [if_pos hc15] at h
              refine px_D_iast (k := 22) (n := 32) rfl rfl hc15 ?_
              refine px_D_st 2 (ip1 := 4) (ls1 := [(5, .inl (px_wr (x5 + 1))), (4, .inl (px_wr (x4 + (-1)))), (6, .inl (s 26 x5.toNat)), (0, .inr (.inr 21)), (2, .inl (x2)), (3, .inr (.inr 46))]) (st1 := []) (h1 := (px_G1, px_up s 27 (px_wr ((px_wr (x4 + (-1))) - 1)).toNat q14)) rfl ?_
              refine px_D_ls [(0, .inr (.inr 21)), (2, .inl (x2)), (3, .inr (.inr 46)), (4, .inl (px_wr (x4 + (-1)))), (5, .inl (px_wr (x5 + 1)))] rfl rfl (List.forall_mem_cons.mpr ⟨rfl, List.forall_mem_cons.mpr ⟨rfl, List.forall_mem_cons.mpr ⟨rfl, List.forall_mem_cons.mpr ⟨rfl, List.forall_mem_cons.mpr ⟨rfl, fun _ h => absurd h List.not_mem_nil⟩⟩⟩⟩⟩) ?_
              exact ih _ _ _ _ _ h
          · have hc10 : (s 26 x5.toNat) = (272) := Decidable.of_not_not (of_decide_eq_false hc)
            rw [if_pos hc10] at h
            refine px_D_st 1 (ip1 := 47) (ls1 := [(6, .inl (s 26 x5.toNat)), (0, .inr (.inr 21)), (2, .inl (x2)), (3, .inr (.inr 46)), (4, .inl (x4)), (5, .inl (x5))]) (st1 := [.inl (x4)]) (h1 := (px_G1, s)) rfl ?_
            refine px_D_ifc rfl (fun hc => ?_) (fun hc => ?_)
            · have hc16 : (x4) ≤ (0) := of_decide_eq_true hc
              rw [if_pos hc16] at h
              refine px_D_st 2 (ip1 := 4) (ls1 := [(5, .inl (px_wr (x5 + 1))), (6, .inl (s 26 x5.toNat)), (0, .inr (.inr 21)), (2, .inl (x2)), (3, .inr (.inr 46)), (4, .inl (x4))]) (st1 := []) (h1 := (px_G1, s)) rfl ?_
              refine px_D_ls [(0, .inr (.inr 21)), (2, .inl (x2)), (3, .inr (.inr 46)), (4, .inl (x4)), (5, .inl (px_wr (x5 + 1)))] rfl rfl (List.forall_mem_cons.mpr ⟨rfl, List.forall_mem_cons.mpr ⟨rfl, List.forall_mem_cons.mpr ⟨rfl, List.forall_mem_cons.mpr ⟨rfl, List.forall_mem_cons.mpr ⟨rfl, fun _ h => absurd h List.not_mem_nil⟩⟩⟩⟩⟩) ?_
              exact ih _ _ _ _ _ h
            · have hc16 : ¬ ((x4) ≤ (0)) := of_decide_eq_false hc
              rw [if_neg hc16] at h
              refine px_D_st 11 (ip1 := 59) (ls1 := [(6, .inl (s 26 x5.toNat)), (0, .inr (.inr 21)), (2, .inl (x2)), (3, .inr (.inr 46)), (4, .inl (x4)), (5, .inl (x5))]) (st1 := [.inl (px_wr (x4 - 1)), .inr (.inr 27), .inl (1), .inl (px_wr (x4 - 1)), .inr (.inr 27)]) (h1 := (px_G1, s)) rfl ?_
              by_cases hc17 : 0 ≤ (px_wr (x4 - 1)) ∧ (px_wr (x4 - 1)) < 32
              case neg => rw [if_neg hc17] at h; cases h
              rw [if_pos hc17] at h
              refine px_D_iald (k := 22) (n := 32) rfl rfl hc17 ?_
              refine px_D_st 1 (ip1 := 61) (ls1 := [(6, .inl (s 26 x5.toNat)), (0, .inr (.inr 21)), (2, .inl (x2)), (3, .inr (.inr 46)), (4, .inl (x4)), (5, .inl (x5))]) (st1 := [.inl (px_wr (1 - (s 27 (px_wr (x4 - 1)).toNat))), .inl (px_wr (x4 - 1)), .inr (.inr 27)]) (h1 := (px_G1, s)) rfl ?_
              by_cases hc18 : 0 ≤ (px_wr (x4 - 1)) ∧ (px_wr (x4 - 1)) < 32
              case neg => rw [if_neg hc18] at h; cases h
              rw [if_pos hc18] at h
              refine px_D_iast (k := 22) (n := 32) rfl rfl hc18 ?_
              refine px_D_st 3 (ip1 := 4) (ls1 := [(5, .inl (px_wr (x5 + 1))), (6, .inl (s 26 x5.toNat)), (0, .inr (.inr 21)), (2, .inl (x2)), (3, .inr (.inr 46)), (4, .inl (x4))]) (st1 := []) (h1 := (px_G1, px_up s 27 (px_wr (x4 - 1)).toNat (px_wr (1 - (s 27 (px_wr (x4 - 1)).toNat))))) rfl ?_
              refine px_D_ls [(0, .inr (.inr 21)), (2, .inl (x2)), (3, .inr (.inr 46)), (4, .inl (x4)), (5, .inl (px_wr (x5 + 1)))] rfl rfl (List.forall_mem_cons.mpr ⟨rfl, List.forall_mem_cons.mpr ⟨rfl, List.forall_mem_cons.mpr ⟨rfl, List.forall_mem_cons.mpr ⟨rfl, List.forall_mem_cons.mpr ⟨rfl, fun _ h => absurd h List.not_mem_nil⟩⟩⟩⟩⟩) ?_
              exact ih _ _ _ _ _ h
        · have hc9 : ¬ ((f_R_within s (s 26 x5.toNat) 256 264) = (0)) := of_decide_eq_false hc
          rw [if_neg hc9] at h
          refine px_D_st 4 (ip1 := 24) (ls1 := [(6, .inl (s 26 x5.toNat)), (0, .inr (.inr 21)), (2, .inl (x2)), (3, .inr (.inr 46)), (4, .inl (x4)), (5, .inl (x5))]) (st1 := [.inl (32), .inl (x4)]) (h1 := (px_G1, s)) rfl ?_
          refine px_D_icmp rfl (fun hc => ?_) (fun hc => ?_)
          · have hc19 : (32) ≤ (x4) := of_decide_eq_true hc
            rw [if_pos hc19] at h
            refine px_D_st 2 (ip1 := 4) (ls1 := [(5, .inl (px_wr (x5 + 1))), (6, .inl (s 26 x5.toNat)), (0, .inr (.inr 21)), (2, .inl (x2)), (3, .inr (.inr 46)), (4, .inl (x4))]) (st1 := []) (h1 := (px_G1, s)) rfl ?_
            refine px_D_ls [(0, .inr (.inr 21)), (2, .inl (x2)), (3, .inr (.inr 46)), (4, .inl (x4)), (5, .inl (px_wr (x5 + 1)))] rfl rfl (List.forall_mem_cons.mpr ⟨rfl, List.forall_mem_cons.mpr ⟨rfl, List.forall_mem_cons.mpr ⟨rfl, List.forall_mem_cons.mpr ⟨rfl, List.forall_mem_cons.mpr ⟨rfl, fun _ h => absurd h List.not_mem_nil⟩⟩⟩⟩⟩) ?_
            exact ih _ _ _ _ _ h
          · have hc19 : ¬ ((32) ≤ (x4)) := of_decide_eq_false hc
            rw [if_neg hc19] at h
            refine px_D_st 5 (ip1 := 30) (ls1 := [(6, .inl (s 26 x5.toNat)), (0, .inr (.inr 21)), (2, .inl (x2)), (3, .inr (.inr 46)), (4, .inl (x4)), (5, .inl (x5))]) (st1 := [.inl (1000), .inl (s 26 x5.toNat), .inl (x4), .inr (.inr 27)]) (h1 := (px_G1, s)) rfl ?_
            refine px_D_icmp rfl (fun hc => ?_) (fun hc => ?_)
            · have hc20 : (s 26 x5.toNat) < (1000) := of_decide_eq_true hc
              rw [if_pos hc20] at h
              refine px_D_st 4 (ip1 := 39) (ls1 := [(6, .inl (s 26 x5.toNat)), (0, .inr (.inr 21)), (2, .inl (x2)), (3, .inr (.inr 46)), (4, .inl (x4)), (5, .inl (x5))]) (st1 := [.inl (px_wr ((s 26 x5.toNat) - 256)), .inr (.inr 46), .inl (x4), .inr (.inr 27)]) (h1 := (px_G1, s)) rfl ?_
              by_cases hc21 : 0 ≤ (px_wr ((s 26 x5.toNat) - 256)) ∧ (px_wr ((s 26 x5.toNat) - 256)) < 9
              case neg => rw [if_neg hc21] at h; cases h
              rw [if_pos hc21] at h
              refine px_D_iald (k := 41) (n := 9) rfl rfl hc21 ?_
              by_cases hc22 : 0 ≤ (x4) ∧ (x4) < 32
              case neg => rw [if_neg hc22] at h; cases h
              rw [if_pos hc22] at h
              refine px_D_iast (k := 22) (n := 32) rfl rfl hc22 ?_
              refine px_D_st 4 (ip1 := 4) (ls1 := [(5, .inl (px_wr (x5 + 1))), (4, .inl (px_wr (x4 + 1))), (6, .inl (s 26 x5.toNat)), (0, .inr (.inr 21)), (2, .inl (x2)), (3, .inr (.inr 46))]) (st1 := []) (h1 := (px_G1, px_up s 27 x4.toNat (s 46 (px_wr ((s 26 x5.toNat) - 256)).toNat))) rfl ?_
              refine px_D_ls [(0, .inr (.inr 21)), (2, .inl (x2)), (3, .inr (.inr 46)), (4, .inl (px_wr (x4 + 1))), (5, .inl (px_wr (x5 + 1)))] rfl rfl (List.forall_mem_cons.mpr ⟨rfl, List.forall_mem_cons.mpr ⟨rfl, List.forall_mem_cons.mpr ⟨rfl, List.forall_mem_cons.mpr ⟨rfl, List.forall_mem_cons.mpr ⟨rfl, fun _ h => absurd h List.not_mem_nil⟩⟩⟩⟩⟩) ?_
              exact ih _ _ _ _ _ h
            · have hc20 : ¬ ((s 26 x5.toNat) < (1000)) := of_decide_eq_false hc
              rw [if_neg hc20] at h
              refine px_D_st 4 (ip1 := 40) (ls1 := [(6, .inl (s 26 x5.toNat)), (0, .inr (.inr 21)), (2, .inl (x2)), (3, .inr (.inr 46)), (4, .inl (x4)), (5, .inl (x5))]) (st1 := [.inl (px_wr ((s 26 x5.toNat) - 1000)), .inl (x4), .inr (.inr 27)]) (h1 := (px_G1, s)) rfl ?_
              by_cases hc23 : 0 ≤ (x4) ∧ (x4) < 32
              case neg => rw [if_neg hc23] at h; cases h
              rw [if_pos hc23] at h
              refine px_D_iast (k := 22) (n := 32) rfl rfl hc23 ?_
              refine px_D_st 4 (ip1 := 4) (ls1 := [(5, .inl (px_wr (x5 + 1))), (4, .inl (px_wr (x4 + 1))), (6, .inl (s 26 x5.toNat)), (0, .inr (.inr 21)), (2, .inl (x2)), (3, .inr (.inr 46))]) (st1 := []) (h1 := (px_G1, px_up s 27 x4.toNat (px_wr ((s 26 x5.toNat) - 1000)))) rfl ?_
              refine px_D_ls [(0, .inr (.inr 21)), (2, .inl (x2)), (3, .inr (.inr 46)), (4, .inl (px_wr (x4 + 1))), (5, .inl (px_wr (x5 + 1)))] rfl rfl (List.forall_mem_cons.mpr ⟨rfl, List.forall_mem_cons.mpr ⟨rfl, List.forall_mem_cons.mpr ⟨rfl, List.forall_mem_cons.mpr ⟨rfl, List.forall_mem_cons.mpr ⟨rfl, fun _ h => absurd h List.not_mem_nil⟩⟩⟩⟩⟩) ?_
              exact ih _ _ _ _ _ h
def f_Law_run_2 (s : px_Z) (x1 : Int) (x2 : Int) : Option (Int × px_Z) := l_Law_run_2_4 (fun s x4 => if (x4) ≤ (0) then some (0, s) else (if 0 ≤ (px_wr (x4 - 1)) ∧ (px_wr (x4 - 1)) < 32 then some ((s 27 (px_wr (x4 - 1)).toNat, s)) else none)) px_big s x2 0 x1
set_option maxHeartbeats 4000000 in
set_option maxRecDepth 100000 in
theorem c_Law_run_2 {sc : List Int} {d : Nat} {s : px_Z} {x1 : Int} {x2 : Int} {out : Int × px_Z} (h : f_Law_run_2 s x1 x2 = some out) : px_D sc (d + 1) 18 0 [(0, .inr (.inr 21)), (1, .inl (x1)), (2, .inl (x2)), (3, .inr (.inr 46))] [] (px_G1, s) (px_Qi out) := by
  unfold f_Law_run_2 at h
  refine px_D_st 4 (ip1 := 4) (ls1 := [(5, .inl (x1)), (4, .inl (0)), (0, .inr (.inr 21)), (1, .inl (x1)), (2, .inl (x2)), (3, .inr (.inr 46))]) (st1 := []) (h1 := (px_G1, s)) rfl ?_
  refine px_D_ls [(0, .inr (.inr 21)), (2, .inl (x2)), (3, .inr (.inr 46)), (4, .inl (0)), (5, .inl (x1))] rfl rfl (List.forall_mem_cons.mpr ⟨rfl, List.forall_mem_cons.mpr ⟨rfl, List.forall_mem_cons.mpr ⟨rfl, List.forall_mem_cons.mpr ⟨rfl, List.forall_mem_cons.mpr ⟨rfl, fun _ h => absurd h List.not_mem_nil⟩⟩⟩⟩⟩) ?_
  refine cl_Law_run_2_4 ?_ px_big _ _ _ _ _ h
  · intro s x4 out h
    refine px_D_st 1 (ip1 := 88) (ls1 := [(0, .inr (.inr 21)), (4, .inl (x4))]) (st1 := [.inl (x4)]) (h1 := (px_G1, s)) rfl ?_
    refine px_D_ifc rfl (fun hc => ?_) (fun hc => ?_)
    · have hc24 : (x4) ≤ (0) := of_decide_eq_true hc
      rw [if_pos hc24] at h
      refine px_D_st 1 (ip1 := 97) (ls1 := [(0, .inr (.inr 21)), (4, .inl (x4))]) (st1 := [.inl (0)]) (h1 := (px_G1, s)) rfl ?_
      cases h
      exact px_D_iret rfl rfl ⟨rfl, rfl⟩
    · have hc24 : ¬ ((x4) ≤ (0)) := of_decide_eq_false hc
      rw [if_neg hc24] at h
      refine px_D_st 5 (ip1 := 94) (ls1 := [(0, .inr (.inr 21)), (4, .inl (x4))]) (st1 := [.inl (px_wr (x4 - 1)), .inr (.inr 27)]) (h1 := (px_G1, s)) rfl ?_
      by_cases hc25 : 0 ≤ (px_wr (x4 - 1)) ∧ (px_wr (x4 - 1)) < 32
      case neg => rw [if_neg hc25] at h; cases h
      rw [if_pos hc25] at h
      refine px_D_iald (k := 22) (n := 32) rfl rfl hc25 ?_
      refine px_D_st 1 (ip1 := 97) (ls1 := [(0, .inr (.inr 21)), (4, .inl (x4))]) (st1 := [.inl (s 27 (px_wr (x4 - 1)).toNat)]) (h1 := (px_G1, s)) rfl ?_
      cases h
      exact px_D_iret rfl rfl ⟨rfl, rfl⟩

def l_Law_value_2_2 (k33 : px_Z → Int → Option (Int × px_Z)) : Nat → px_Z → Int → Int → Int → Option (Int × px_Z)
  | 0, _, _, _, _ => none
  | n + 1, s, x1, x3, x4 => if (s 21 0) ≤ (x4) then some (x3, s) else (if 0 ≤ (x4) ∧ (x4) < 16 then if (s 22 x4.toNat) = (x1) then (if 0 ≤ (x4) ∧ (x4) < 16 then if 0 ≤ (x4) ∧ (x4) < 16 then if (s 24 x4.toNat) = (s 25 x4.toNat) then k33 s x4 else (if 0 ≤ (x4) ∧ (x4) < 16 then if 0 ≤ (x4) ∧ (x4) < 16 then (f_Law_run_2 s (s 24 x4.toNat) (s 25 x4.toNat)).bind (fun q9 => if (q9.1) = (0) then l_Law_value_2_2 k33 n q9.2 x1 x3 (px_wr (x4 + 1)) else k33 q9.2 x4) else none else none) else none else none) else l_Law_value_2_2 k33 n s x1 x3 (px_wr (x4 + 1)) else none)
set_option maxHeartbeats 4000000 in
set_option maxRecDepth 100000 in
theorem cl_Law_value_2_2 {sc : List Int} {d : Nat} {k33 : px_Z → Int → Option (Int × px_Z)}  (hk33 : ∀ (s : px_Z) (y4 : Int) (out : Int × px_Z), k33 s y4 = some out → px_D sc (d + 2) 17 33 [(0, .inr (.inr 21)), (2, .inr (.inr 46)), (4, .inl (y4))] [] (px_G1, s) (px_Qi out)) : ∀ (n : Nat) (s : px_Z) (x1 : Int) (x3 : Int) (x4 : Int) (out : Int × px_Z), l_Law_value_2_2 k33 n s x1 x3 x4 = some out → px_D sc (d + 2) 17 2 [(0, .inr (.inr 21)), (1, .inl (x1)), (2, .inr (.inr 46)), (3, .inl (x3)), (4, .inl (x4))] [] (px_G1, s) (px_Qi out) := by
  intro n
  induction n with
  | zero => intro s x1 x3 x4 out h; cases h
  | succ n ih =>
    intro s x1 x3 x4 out h
    rw [l_Law_value_2_2] at h
    refine px_D_st 3 (ip1 := 5) (ls1 := [(0, .inr (.inr 21)), (1, .inl (x1)), (2, .inr (.inr 46)), (3, .inl (x3)), (4, .inl (x4))]) (st1 := [.inl (s 21 0), .inl (x4)]) (h1 := (px_G1, s)) rfl ?_
    refine px_D_icmp rfl (fun hc => ?_) (fun hc => ?_)
    · have hc1 : (s 21 0) ≤ (x4) := of_decide_eq_true hc
      rw [if_pos hc1] at h
      refine px_D_st 1 (ip1 := 48) (ls1 := [(0, .inr (.inr 21)), (1, .inl (x1)), (2, .inr (.inr 46)), (3, .inl (x3)), (4, .inl (x4))]) (st1 := [.inl (x3)]) (h1 := (px_G1, s)) rfl ?_
      cases h
      exact px_D_iret rfl rfl ⟨rfl, rfl⟩
    · have hc1 : ¬ ((s 21 0) ≤ (x4)) := of_decide_eq_false hc
      rw [if_neg hc1] at h
      refine px_D_st 3 (ip1 := 9) (ls1 := [(0, .inr (.inr 21)), (1, .inl (x1)), (2, .inr (.inr 46)), (3, .inl (x3)), (4, .inl (x4))]) (st1 := [.inl (x4), .inr (.inr 22)]) (h1 := (px_G1, s)) rfl ?_
      by_cases hc2 : 0 ≤ (x4) ∧ (x4) < 16
      case neg => rw [if_neg hc2] at h; cases h
      rw [if_pos hc2] at h
      refine px_D_iald (k := 17) (n := 16) rfl rfl hc2 ?_
      refine px_D_st 1 (ip1 := 11) (ls1 := [(0, .inr (.inr 21)), (1, .inl (x1)), (2, .inr (.inr 46)), (3, .inl (x3)), (4, .inl (x4))]) (st1 := [.inl (x1), .inl (s 22 x4.toNat)]) (h1 := (px_G1, s)) rfl ?_
      refine px_D_icmp rfl (fun hc => ?_) (fun hc => ?_)
      · have hc3 : ¬ ((s 22 x4.toNat) = (x1)) := of_decide_eq_true hc
        rw [if_neg hc3] at h
        refine px_D_st 2 (ip1 := 2) (ls1 := [(4, .inl (px_wr (x4 + 1))), (0, .inr (.inr 21)), (1, .inl (x1)), (2, .inr (.inr 46)), (3, .inl (x3))]) (st1 := []) (h1 := (px_G1, s)) rfl ?_
        refine px_D_ls [(0, .inr (.inr 21)), (1, .inl (x1)), (2, .inr (.inr 46)), (3, .inl (x3)), (4, .inl (px_wr (x4 + 1)))] rfl rfl (List.forall_mem_cons.mpr ⟨rfl, List.forall_mem_cons.mpr ⟨rfl, List.forall_mem_cons.mpr ⟨rfl, List.forall_mem_cons.mpr ⟨rfl, List.forall_mem_cons.mpr ⟨rfl, fun _ h => absurd h List.not_mem_nil⟩⟩⟩⟩⟩) ?_
        exact ih _ _ _ _ _ h
      · have hc3 : (s 22 x4.toNat) = (x1) := Decidable.of_not_not (of_decide_eq_false hc)
        rw [if_pos hc3] at h
        refine px_D_st 3 (ip1 := 15) (ls1 := [(0, .inr (.inr 21)), (1, .inl (x1)), (2, .inr (.inr 46)), (3, .inl (x3)), (4, .inl (x4))]) (st1 := [.inl (x4), .inr (.inr 24)]) (h1 := (px_G1, s)) rfl ?_
        by_cases hc4 : 0 ≤ (x4) ∧ (x4) < 16
        case neg => rw [if_neg hc4] at h; cases h
        rw [if_pos hc4] at h
        refine px_D_iald (k := 19) (n := 16) rfl rfl hc4 ?_
        refine px_D_st 3 (ip1 := 19) (ls1 := [(0, .inr (.inr 21)), (1, .inl (x1)), (2, .inr (.inr 46)), (3, .inl (x3)), (4, .inl (x4))]) (st1 := [.inl (x4), .inr (.inr 25), .inl (s 24 x4.toNat)]) (h1 := (px_G1, s)) rfl ?_
        by_cases hc5 : 0 ≤ (x4) ∧ (x4) < 16
        case neg => rw [if_neg hc5] at h; cases h
        rw [if_pos hc5] at h
        refine px_D_iald (k := 20) (n := 16) rfl rfl hc5 ?_
        refine px_D_icmp rfl (fun hc => ?_) (fun hc => ?_)
        · have hc6 : (s 24 x4.toNat) = (s 25 x4.toNat) := of_decide_eq_true hc
          rw [if_pos hc6] at h
          refine px_D_ls [(0, .inr (.inr 21)), (2, .inr (.inr 46)), (4, .inl (x4))] rfl rfl (List.forall_mem_cons.mpr ⟨rfl, List.forall_mem_cons.mpr ⟨rfl, List.forall_mem_cons.mpr ⟨rfl, fun _ h => absurd h List.not_mem_nil⟩⟩⟩) ?_
          exact hk33 _ _ _ h
        · have hc6 : ¬ ((s 24 x4.toNat) = (s 25 x4.toNat)) := of_decide_eq_false hc
          rw [if_neg hc6] at h
          refine px_D_st 4 (ip1 := 25) (ls1 := [(0, .inr (.inr 21)), (1, .inl (x1)), (2, .inr (.inr 46)), (3, .inl (x3)), (4, .inl (x4))]) (st1 := [.inl (x4), .inr (.inr 24), .inr (.inr 21)]) (h1 := (px_G1, s)) rfl ?_
          by_cases hc7 : 0 ≤ (x4) ∧ (x4) < 16
          case neg => rw [if_neg hc7] at h; cases h
          rw [if_pos hc7] at h
          refine px_D_iald (k := 19) (n := 16) rfl rfl hc7 ?_
          refine px_D_st 3 (ip1 := 29) (ls1 := [(0, .inr (.inr 21)), (1, .inl (x1)), (2, .inr (.inr 46)), (3, .inl (x3)), (4, .inl (x4))]) (st1 := [.inl (x4), .inr (.inr 25), .inl (s 24 x4.toNat), .inr (.inr 21)]) (h1 := (px_G1, s)) rfl ?_
          by_cases hc8 : 0 ≤ (x4) ∧ (x4) < 16
          case neg => rw [if_neg hc8] at h; cases h
          rw [if_pos hc8] at h
          refine px_D_iald (k := 20) (n := 16) rfl rfl hc8 ?_
          refine px_D_st 1 (ip1 := 31) (ls1 := [(0, .inr (.inr 21)), (1, .inl (x1)), (2, .inr (.inr 46)), (3, .inl (x3)), (4, .inl (x4))]) (st1 := [.inr (.inr 46), .inl (s 25 x4.toNat), .inl (s 24 x4.toNat), .inr (.inr 21)]) (h1 := (px_G1, s)) rfl ?_
          refine px_D_call (as := [.inr (.inr 21), .inl (s 24 x4.toNat), .inl (s 25 x4.toNat), .inr (.inr 46)]) (rest := []) rfl rfl rfl rfl ?_
          obtain ⟨q9, hq9, h⟩ := Option.bind_eq_some_iff.mp h
          refine px_D_mono (c_Law_run_2 (d := d + 0) hq9) ?_
          rintro _ _ ⟨rfl, rfl⟩
          show px_D sc (d + 2) 17 32 [(0, .inr (.inr 21)), (1, .inl (x1)), (2, .inr (.inr 46)), (3, .inl (x3)), (4, .inl (x4))] [.inl (q9.1)] (px_G1, q9.2) _
          refine px_D_ifc rfl (fun hc => ?_) (fun hc => ?_)
          · have hc10 : (q9.1) = (0) := of_decide_eq_true hc
            rw [if_pos hc10] at h
            refine px_D_st 2 (ip1 := 2) (ls1 := [(4, .inl (px_wr (x4 + 1))), (0, .inr (.inr 21)), (1, .inl (x1)), (2, .inr (.inr 46)), (3, .inl (x3))]) (st1 := []) (h1 := (px_G1, q9.2)) rfl ?_
            refine px_D_ls [(0, .inr (.inr 21)), (1, .inl (x1)), (2, .inr (.inr 46)), (3, .inl (x3)), (4, .inl (px_wr (x4 + 1)))] rfl rfl (List.forall_mem_cons.mpr ⟨rfl, List.forall_mem_cons.mpr ⟨rfl, List.forall_mem_cons.mpr ⟨rfl, List.forall_mem_cons.mpr ⟨rfl, List.forall_mem_cons.mpr ⟨rfl, fun _ h => absurd h List.not_mem_nil⟩⟩⟩⟩⟩) ?_
            exact ih _ _ _ _ _ h
          · have hc10 : ¬ ((q9.1) = (0)) := of_decide_eq_false hc
            rw [if_neg hc10] at h
            refine px_D_ls [(0, .inr (.inr 21)), (2, .inr (.inr 46)), (4, .inl (x4))] rfl rfl (List.forall_mem_cons.mpr ⟨rfl, List.forall_mem_cons.mpr ⟨rfl, List.forall_mem_cons.mpr ⟨rfl, fun _ h => absurd h List.not_mem_nil⟩⟩⟩) ?_
            exact hk33 _ _ _ h
def j_Law_value_2_j33 (s : px_Z) (x4 : Int) : Option (Int × px_Z) := if 0 ≤ (x4) ∧ (x4) < 16 then if 0 ≤ (x4) ∧ (x4) < 16 then (f_Law_run_2 s (s 23 x4.toNat) (s 24 x4.toNat)).bind (fun q13 => some (q13.1, q13.2)) else none else none
set_option maxHeartbeats 4000000 in
set_option maxRecDepth 100000 in
theorem cj_Law_value_2_j33 {sc : List Int} {d : Nat} {s : px_Z} {x4 : Int} {out : Int × px_Z} (h : j_Law_value_2_j33 s x4 = some out) : px_D sc (d + 2) 17 33 [(0, .inr (.inr 21)), (2, .inr (.inr 46)), (4, .inl (x4))] [] (px_G1, s) (px_Qi out) := by
  unfold j_Law_value_2_j33 at h
  refine px_D_st 4 (ip1 := 37) (ls1 := [(0, .inr (.inr 21)), (2, .inr (.inr 46)), (4, .inl (x4))]) (st1 := [.inl (x4), .inr (.inr 23), .inr (.inr 21)]) (h1 := (px_G1, s)) rfl ?_
  by_cases hc11 : 0 ≤ (x4) ∧ (x4) < 16
  case neg => rw [if_neg hc11] at h; cases h
  rw [if_pos hc11] at h
  refine px_D_iald (k := 18) (n := 16) rfl rfl hc11 ?_
  refine px_D_st 3 (ip1 := 41) (ls1 := [(0, .inr (.inr 21)), (2, .inr (.inr 46)), (4, .inl (x4))]) (st1 := [.inl (x4), .inr (.inr 24), .inl (s 23 x4.toNat), .inr (.inr 21)]) (h1 := (px_G1, s)) rfl ?_
  by_cases hc12 : 0 ≤ (x4) ∧ (x4) < 16
  case neg => rw [if_neg hc12] at h; cases h
  rw [if_pos hc12] at h
  refine px_D_iald (k := 19) (n := 16) rfl rfl hc12 ?_
  refine px_D_st 1 (ip1 := 43) (ls1 := [(0, .inr (.inr 21)), (2, .inr (.inr 46)), (4, .inl (x4))]) (st1 := [.inr (.inr 46), .inl (s 24 x4.toNat), .inl (s 23 x4.toNat), .inr (.inr 21)]) (h1 := (px_G1, s)) rfl ?_
  refine px_D_call (as := [.inr (.inr 21), .inl (s 23 x4.toNat), .inl (s 24 x4.toNat), .inr (.inr 46)]) (rest := []) rfl rfl rfl rfl ?_
  obtain ⟨q13, hq13, h⟩ := Option.bind_eq_some_iff.mp h
  refine px_D_mono (c_Law_run_2 (d := d + 0) hq13) ?_
  rintro _ _ ⟨rfl, rfl⟩
  show px_D sc (d + 2) 17 44 [(0, .inr (.inr 21)), (2, .inr (.inr 46)), (4, .inl (x4))] [.inl (q13.1)] (px_G1, q13.2) _
  cases h
  exact px_D_iret rfl rfl ⟨rfl, rfl⟩
def f_Law_value_2 (s : px_Z) (x1 : Int) (x3 : Int) : Option (Int × px_Z) := l_Law_value_2_2 (fun s x4 => j_Law_value_2_j33 s x4) px_big s x1 x3 0
set_option maxHeartbeats 4000000 in
set_option maxRecDepth 100000 in
theorem c_Law_value_2 {sc : List Int} {d : Nat} {s : px_Z} {x1 : Int} {x3 : Int} {out : Int × px_Z} (h : f_Law_value_2 s x1 x3 = some out) : px_D sc (d + 2) 17 0 [(0, .inr (.inr 21)), (1, .inl (x1)), (2, .inr (.inr 46)), (3, .inl (x3))] [] (px_G1, s) (px_Qi out) := by
  unfold f_Law_value_2 at h
  refine px_D_st 2 (ip1 := 2) (ls1 := [(4, .inl (0)), (0, .inr (.inr 21)), (1, .inl (x1)), (2, .inr (.inr 46)), (3, .inl (x3))]) (st1 := []) (h1 := (px_G1, s)) rfl ?_
  refine px_D_ls [(0, .inr (.inr 21)), (1, .inl (x1)), (2, .inr (.inr 46)), (3, .inl (x3)), (4, .inl (0))] rfl rfl (List.forall_mem_cons.mpr ⟨rfl, List.forall_mem_cons.mpr ⟨rfl, List.forall_mem_cons.mpr ⟨rfl, List.forall_mem_cons.mpr ⟨rfl, List.forall_mem_cons.mpr ⟨rfl, fun _ h => absurd h List.not_mem_nil⟩⟩⟩⟩⟩) ?_
  refine cl_Law_value_2_2 ?_ px_big _ _ _ _ _ h
  · intro s x4 out h
    refine px_D_ls [(0, .inr (.inr 21)), (2, .inr (.inr 46)), (4, .inl (x4))] rfl rfl (List.forall_mem_cons.mpr ⟨rfl, List.forall_mem_cons.mpr ⟨rfl, List.forall_mem_cons.mpr ⟨rfl, fun _ h => absurd h List.not_mem_nil⟩⟩⟩) ?_
    exact cj_Law_value_2_j33 h
