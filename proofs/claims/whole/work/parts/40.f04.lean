def j_M_least_j25 (s : px_Z) (x1 : Int) : Option (Int × px_Z) := (f_M_findsLeast s ).bind (fun q3 => (f_M_leastNow q3 ).bind (fun q4 => if (q4) < (10000000) then (if (x1) < (10) then (f_M_homeSet q3 ).bind (fun q7 => if 0 ≤ (f_M_leastAt q3 1 q7 (q3 151 6)) ∧ (f_M_leastAt q3 1 q7 (q3 151 6)) < 142848 then if (x1) = (0) then some (q4, q3) else (if (q3 176 (f_M_leastAt q3 1 q7 (q3 151 6)).toNat) < (10000000) then some ((px_wr ((q3 176 (f_M_leastAt q3 1 q7 (q3 151 6)).toNat) - q4), q3)) else some (((-1), q3))) else none) else (f_M_thingIn q3 (px_wr (x1 - 10))).bind (fun q11 => some (q11.1, q11.2))) else some (((-1), q3))))
set_option maxHeartbeats 4000000 in
set_option maxRecDepth 100000 in
theorem cj_M_least_j25 {sc : List Int} {d : Nat} {s : px_Z} {x1 : Int} {out : Int × px_Z} (h : j_M_least_j25 s x1 = some out) : px_D sc (d + 9) 253 25 [(0, .inr (.inr 150)), (1, .inl (x1))] [] (px_G1, s) (px_Qi out) := by
  unfold j_M_least_j25 at h
  refine px_D_st 1 (ip1 := 26) (ls1 := [(0, .inr (.inr 150)), (1, .inl (x1))]) (st1 := [.inr (.inr 150)]) (h1 := (px_G1, s)) rfl ?_
  refine px_D_call (as := [.inr (.inr 150)]) (rest := []) rfl rfl rfl rfl ?_
  obtain ⟨q3, hq3, h⟩ := Option.bind_eq_some_iff.mp h
  refine px_D_mono (c_M_findsLeast (d := d + 0) hq3) ?_
  rintro _ _ ⟨rfl, rfl⟩
  show px_D sc (d + 9) 253 27 [(0, .inr (.inr 150)), (1, .inl (x1))] [] (px_G1, q3) _
  refine px_D_st 1 (ip1 := 28) (ls1 := [(0, .inr (.inr 150)), (1, .inl (x1))]) (st1 := [.inr (.inr 150)]) (h1 := (px_G1, q3)) rfl ?_
  refine px_D_call (as := [.inr (.inr 150)]) (rest := []) rfl rfl rfl rfl ?_
  obtain ⟨q4, hq4, h⟩ := Option.bind_eq_some_iff.mp h
  refine px_D_mono (c_M_leastNow (d := d + 6) hq4) ?_
  rintro _ _ ⟨rfl, rfl⟩
  show px_D sc (d + 9) 253 29 [(0, .inr (.inr 150)), (1, .inl (x1))] [.inl (q4)] (px_G1, q3) _
  refine px_D_st 3 (ip1 := 32) (ls1 := [(3, .inl (q4)), (0, .inr (.inr 150)), (1, .inl (x1))]) (st1 := [.inl (10000000), .inl (q4)]) (h1 := (px_G1, q3)) rfl ?_
  refine px_D_icmp rfl (fun hc => ?_) (fun hc => ?_)
  · have hc5 : (q4) < (10000000) := of_decide_eq_true hc
    rw [if_pos hc5] at h
    refine px_D_st 2 (ip1 := 37) (ls1 := [(3, .inl (q4)), (0, .inr (.inr 150)), (1, .inl (x1))]) (st1 := [.inl (10), .inl (x1)]) (h1 := (px_G1, q3)) rfl ?_
    refine px_D_icmp rfl (fun hc => ?_) (fun hc => ?_)
    · have hc6 : (x1) < (10) := of_decide_eq_true hc
      rw [if_pos hc6] at h
      refine px_D_st 5 (ip1 := 49) (ls1 := [(3, .inl (q4)), (0, .inr (.inr 150)), (1, .inl (x1))]) (st1 := [.inr (.inr 150), .inl (1), .inr (.inr 150), .inr (.inr 176)]) (h1 := (px_G1, q3)) rfl ?_
      refine px_D_call (as := [.inr (.inr 150)]) (rest := [.inl (1), .inr (.inr 150), .inr (.inr 176)]) rfl rfl rfl rfl ?_
      obtain ⟨q7, hq7, h⟩ := Option.bind_eq_some_iff.mp h
      refine px_D_mono (c_M_homeSet (d := d + 7) hq7) ?_
      rintro _ _ ⟨rfl, rfl⟩
      show px_D sc (d + 9) 253 50 [(3, .inl (q4)), (0, .inr (.inr 150)), (1, .inl (x1))] [.inl (q7), .inl (1), .inr (.inr 150), .inr (.inr 176)] (px_G1, q3) _
      refine px_D_st 4 (ip1 := 54) (ls1 := [(3, .inl (q4)), (0, .inr (.inr 150)), (1, .inl (x1))]) (st1 := [.inl (q3 151 6), .inl (q7), .inl (1), .inr (.inr 150), .inr (.inr 176)]) (h1 := (px_G1, q3)) rfl ?_
      refine px_D_call (as := [.inr (.inr 150), .inl (1), .inl (q7), .inl (q3 151 6)]) (rest := [.inr (.inr 176)]) rfl rfl rfl rfl ?_
      refine px_D_mono (c_M_leastAt (d := d + 8) rfl) ?_
      rintro _ _ ⟨rfl, rfl⟩
      show px_D sc (d + 9) 253 55 [(3, .inl (q4)), (0, .inr (.inr 150)), (1, .inl (x1))] [.inl (f_M_leastAt q3 1 q7 (q3 151 6)), .inr (.inr 176)] (px_G1, q3) _
      by_cases hc8 : 0 ≤ (f_M_leastAt q3 1 q7 (q3 151 6)) ∧ (f_M_leastAt q3 1 q7 (q3 151 6)) < 142848
      case neg => rw [if_neg hc8] at h; cases h
      rw [if_pos hc8] at h
      refine px_D_iald (k := 171) (n := 142848) rfl rfl hc8 ?_
      refine px_D_st 2 (ip1 := 58) (ls1 := [(4, .inl (q3 176 (f_M_leastAt q3 1 q7 (q3 151 6)).toNat)), (3, .inl (q4)), (0, .inr (.inr 150)), (1, .inl (x1))]) (st1 := [.inl (x1)]) (h1 := (px_G1, q3)) rfl ?_
      refine px_D_ifc rfl (fun hc => ?_) (fun hc => ?_)
      · have hc9 : ¬ ((x1) = (0)) := of_decide_eq_true hc
        rw [if_neg hc9] at h
        refine px_D_st 2 (ip1 := 63) (ls1 := [(4, .inl (q3 176 (f_M_leastAt q3 1 q7 (q3 151 6)).toNat)), (3, .inl (q4)), (0, .inr (.inr 150)), (1, .inl (x1))]) (st1 := [.inl (10000000), .inl (q3 176 (f_M_leastAt q3 1 q7 (q3 151 6)).toNat)]) (h1 := (px_G1, q3)) rfl ?_
        refine px_D_icmp rfl (fun hc => ?_) (fun hc => ?_)
        · have hc10 : (q3 176 (f_M_leastAt q3 1 q7 (q3 151 6)).toNat) < (10000000) := of_decide_eq_true hc
          rw [if_pos hc10] at h
          refine px_D_st 3 (ip1 := 69) (ls1 := [(4, .inl (q3 176 (f_M_leastAt q3 1 q7 (q3 151 6)).toNat)), (3, .inl (q4)), (0, .inr (.inr 150)), (1, .inl (x1))]) (st1 := [.inl (px_wr ((q3 176 (f_M_leastAt q3 1 q7 (q3 151 6)).toNat) - q4))]) (h1 := (px_G1, q3)) rfl ?_
          cases h
          exact px_D_iret rfl rfl ⟨rfl, rfl⟩
        · have hc10 : ¬ ((q3 176 (f_M_leastAt q3 1 q7 (q3 151 6)).toNat) < (10000000)) := of_decide_eq_false hc
          rw [if_neg hc10] at h
          refine px_D_st 2 (ip1 := 69) (ls1 := [(4, .inl (q3 176 (f_M_leastAt q3 1 q7 (q3 151 6)).toNat)), (3, .inl (q4)), (0, .inr (.inr 150)), (1, .inl (x1))]) (st1 := [.inl ((-1))]) (h1 := (px_G1, q3)) rfl ?_
          cases h
          exact px_D_iret rfl rfl ⟨rfl, rfl⟩
      · have hc9 : (x1) = (0) := Decidable.of_not_not (of_decide_eq_false hc)
        rw [if_pos hc9] at h
        refine px_D_st 2 (ip1 := 69) (ls1 := [(4, .inl (q3 176 (f_M_leastAt q3 1 q7 (q3 151 6)).toNat)), (3, .inl (q4)), (0, .inr (.inr 150)), (1, .inl (x1))]) (st1 := [.inl (q4)]) (h1 := (px_G1, q3)) rfl ?_
        cases h
        exact px_D_iret rfl rfl ⟨rfl, rfl⟩
    · have hc6 : ¬ ((x1) < (10)) := of_decide_eq_false hc
      rw [if_neg hc6] at h
      refine px_D_st 4 (ip1 := 42) (ls1 := [(3, .inl (q4)), (0, .inr (.inr 150)), (1, .inl (x1))]) (st1 := [.inl (px_wr (x1 - 10)), .inr (.inr 150)]) (h1 := (px_G1, q3)) rfl ?_
      refine px_D_call (as := [.inr (.inr 150), .inl (px_wr (x1 - 10))]) (rest := []) rfl rfl rfl rfl ?_
      obtain ⟨q11, hq11, h⟩ := Option.bind_eq_some_iff.mp h
      refine px_D_mono (c_M_thingIn (d := d + 1) hq11) ?_
      rintro _ _ ⟨rfl, rfl⟩
      show px_D sc (d + 9) 253 43 [(3, .inl (q4)), (0, .inr (.inr 150)), (1, .inl (x1))] [.inl (q11.1)] (px_G1, q11.2) _
      cases h
      exact px_D_iret rfl rfl ⟨rfl, rfl⟩
  · have hc5 : ¬ ((q4) < (10000000)) := of_decide_eq_false hc
    rw [if_neg hc5] at h
    refine px_D_st 1 (ip1 := 34) (ls1 := [(3, .inl (q4)), (0, .inr (.inr 150)), (1, .inl (x1))]) (st1 := [.inl ((-1))]) (h1 := (px_G1, q3)) rfl ?_
    cases h
    exact px_D_iret rfl rfl ⟨rfl, rfl⟩
def f_M_least (s : px_Z) (x1 : Int) : Option (Int × px_Z) := if (f_M_weeksLeft (px_up s 150 0 0) ) < (1) then some (((-1), px_up s 150 0 0)) else (if (f_M_isIn (px_up s 150 0 0) x1 0 1) = (0) then (if (f_M_isIn (px_up s 150 0 0) x1 10 (px_wr (9 + (f_M_weeksLeft (px_up s 150 0 0) )))) = (0) then some (((-1), px_up s 150 0 0)) else j_M_least_j25 (px_up s 150 0 0) x1) else j_M_least_j25 (px_up s 150 0 0) x1)
set_option maxHeartbeats 4000000 in
set_option maxRecDepth 100000 in
theorem c_M_least {sc : List Int} {d : Nat} {s : px_Z} {x1 : Int} {out : Int × px_Z} (h : f_M_least s x1 = some out) : px_D sc (d + 9) 253 0 [(0, .inr (.inr 150)), (1, .inl (x1))] [] (px_G1, s) (px_Qi out) := by
  unfold f_M_least at h
  refine px_D_st 4 (ip1 := 4) (ls1 := [(0, .inr (.inr 150)), (1, .inl (x1))]) (st1 := [.inr (.inr 150)]) (h1 := (px_G1, px_up s 150 0 0)) rfl ?_
  refine px_D_call (as := [.inr (.inr 150)]) (rest := []) rfl rfl rfl rfl ?_
  refine px_D_mono (c_M_weeksLeft (d := d + 7) rfl) ?_
  rintro _ _ ⟨rfl, rfl⟩
  show px_D sc (d + 9) 253 5 [(0, .inr (.inr 150)), (1, .inl (x1))] [.inl (f_M_weeksLeft (px_up s 150 0 0) )] (px_G1, px_up s 150 0 0) _
  refine px_D_st 3 (ip1 := 8) (ls1 := [(2, .inl (f_M_weeksLeft (px_up s 150 0 0) )), (0, .inr (.inr 150)), (1, .inl (x1))]) (st1 := [.inl (1), .inl (f_M_weeksLeft (px_up s 150 0 0) )]) (h1 := (px_G1, px_up s 150 0 0)) rfl ?_
  refine px_D_icmp rfl (fun hc => ?_) (fun hc => ?_)
  · have hc1 : (f_M_weeksLeft (px_up s 150 0 0) ) < (1) := of_decide_eq_true hc
    rw [if_pos hc1] at h
    refine px_D_st 1 (ip1 := 24) (ls1 := [(2, .inl (f_M_weeksLeft (px_up s 150 0 0) )), (0, .inr (.inr 150)), (1, .inl (x1))]) (st1 := [.inl ((-1))]) (h1 := (px_G1, px_up s 150 0 0)) rfl ?_
    cases h
    exact px_D_iret rfl rfl ⟨rfl, rfl⟩
  · have hc1 : ¬ ((f_M_weeksLeft (px_up s 150 0 0) ) < (1)) := of_decide_eq_false hc
    rw [if_neg hc1] at h
    refine px_D_st 4 (ip1 := 13) (ls1 := [(2, .inl (f_M_weeksLeft (px_up s 150 0 0) )), (0, .inr (.inr 150)), (1, .inl (x1))]) (st1 := [.inl (1), .inl (0), .inl (x1), .inr (.inr 150)]) (h1 := (px_G1, px_up s 150 0 0)) rfl ?_
    refine px_D_call (as := [.inr (.inr 150), .inl (x1), .inl (0), .inl (1)]) (rest := []) rfl rfl rfl rfl ?_
    refine px_D_mono (c_M_isIn (d := d + 8) rfl) ?_
    rintro _ _ ⟨rfl, rfl⟩
    show px_D sc (d + 9) 253 14 [(2, .inl (f_M_weeksLeft (px_up s 150 0 0) )), (0, .inr (.inr 150)), (1, .inl (x1))] [.inl (f_M_isIn (px_up s 150 0 0) x1 0 1)] (px_G1, px_up s 150 0 0) _
    refine px_D_ifc rfl (fun hc => ?_) (fun hc => ?_)
    · have hc2 : ¬ ((f_M_isIn (px_up s 150 0 0) x1 0 1) = (0)) := of_decide_eq_true hc
      rw [if_neg hc2] at h
      refine px_D_ls [(0, .inr (.inr 150)), (1, .inl (x1))] rfl rfl (List.forall_mem_cons.mpr ⟨rfl, List.forall_mem_cons.mpr ⟨rfl, fun _ h => absurd h List.not_mem_nil⟩⟩) ?_
      exact cj_M_least_j25 h
    · have hc2 : (f_M_isIn (px_up s 150 0 0) x1 0 1) = (0) := Decidable.of_not_not (of_decide_eq_false hc)
      rw [if_pos hc2] at h
      refine px_D_st 6 (ip1 := 21) (ls1 := [(2, .inl (f_M_weeksLeft (px_up s 150 0 0) )), (0, .inr (.inr 150)), (1, .inl (x1))]) (st1 := [.inl (px_wr (9 + (f_M_weeksLeft (px_up s 150 0 0) ))), .inl (10), .inl (x1), .inr (.inr 150)]) (h1 := (px_G1, px_up s 150 0 0)) rfl ?_
      refine px_D_call (as := [.inr (.inr 150), .inl (x1), .inl (10), .inl (px_wr (9 + (f_M_weeksLeft (px_up s 150 0 0) )))]) (rest := []) rfl rfl rfl rfl ?_
      refine px_D_mono (c_M_isIn (d := d + 8) rfl) ?_
      rintro _ _ ⟨rfl, rfl⟩
      show px_D sc (d + 9) 253 22 [(2, .inl (f_M_weeksLeft (px_up s 150 0 0) )), (0, .inr (.inr 150)), (1, .inl (x1))] [.inl (f_M_isIn (px_up s 150 0 0) x1 10 (px_wr (9 + (f_M_weeksLeft (px_up s 150 0 0) ))))] (px_G1, px_up s 150 0 0) _
      refine px_D_ifc rfl (fun hc => ?_) (fun hc => ?_)
      · have hc12 : ¬ ((f_M_isIn (px_up s 150 0 0) x1 10 (px_wr (9 + (f_M_weeksLeft (px_up s 150 0 0) )))) = (0)) := of_decide_eq_true hc
        rw [if_neg hc12] at h
        refine px_D_ls [(0, .inr (.inr 150)), (1, .inl (x1))] rfl rfl (List.forall_mem_cons.mpr ⟨rfl, List.forall_mem_cons.mpr ⟨rfl, fun _ h => absurd h List.not_mem_nil⟩⟩) ?_
        exact cj_M_least_j25 h
      · have hc12 : (f_M_isIn (px_up s 150 0 0) x1 10 (px_wr (9 + (f_M_weeksLeft (px_up s 150 0 0) )))) = (0) := Decidable.of_not_not (of_decide_eq_false hc)
        rw [if_pos hc12] at h
        refine px_D_st 1 (ip1 := 24) (ls1 := [(2, .inl (f_M_weeksLeft (px_up s 150 0 0) )), (0, .inr (.inr 150)), (1, .inl (x1))]) (st1 := [.inl ((-1))]) (h1 := (px_G1, px_up s 150 0 0)) rfl ?_
        cases h
        exact px_D_iret rfl rfl ⟨rfl, rfl⟩

def f_M_leastHit (s : px_Z) (x1 : Int) : Option (Int × px_Z) := (f_M_thinks s ).bind (fun q1 => if 0 ≤ (px_wr (16 + x1)) ∧ (px_wr (16 + x1)) < 40 then (f_M_findsLeast (px_up q1 151 (px_wr (16 + x1)).toNat 2) ).bind (fun q3 => (f_M_leastNow q3 ).bind (fun q4 => (f_M_endsThought q3 ).bind (fun q5 => if (q4) < (10000000) then some (q4, q5) else some (((-1), q5))))) else none)
set_option maxHeartbeats 4000000 in
set_option maxRecDepth 100000 in
theorem c_M_leastHit {sc : List Int} {d : Nat} {s : px_Z} {x1 : Int} {out : Int × px_Z} (h : f_M_leastHit s x1 = some out) : px_D sc (d + 9) 254 0 [(0, .inr (.inr 150)), (1, .inl (x1))] [] (px_G1, s) (px_Qi out) := by
  unfold f_M_leastHit at h
  refine px_D_st 1 (ip1 := 1) (ls1 := [(0, .inr (.inr 150)), (1, .inl (x1))]) (st1 := [.inr (.inr 150)]) (h1 := (px_G1, s)) rfl ?_
  refine px_D_call (as := [.inr (.inr 150)]) (rest := []) rfl rfl rfl rfl ?_
  obtain ⟨q1, hq1, h⟩ := Option.bind_eq_some_iff.mp h
  refine px_D_mono (c_M_thinks (d := d + 8) hq1) ?_
  rintro _ _ ⟨rfl, rfl⟩
  show px_D sc (d + 9) 254 2 [(0, .inr (.inr 150)), (1, .inl (x1))] [] (px_G1, q1) _
  refine px_D_st 6 (ip1 := 8) (ls1 := [(0, .inr (.inr 150)), (1, .inl (x1))]) (st1 := [.inl (2), .inl (px_wr (16 + x1)), .inr (.inr 151)]) (h1 := (px_G1, q1)) rfl ?_
  by_cases hc2 : 0 ≤ (px_wr (16 + x1)) ∧ (px_wr (16 + x1)) < 40
  case neg => rw [if_neg hc2] at h; cases h
  rw [if_pos hc2] at h
  refine px_D_iast (k := 146) (n := 40) rfl rfl hc2 ?_
  refine px_D_st 1 (ip1 := 10) (ls1 := [(0, .inr (.inr 150)), (1, .inl (x1))]) (st1 := [.inr (.inr 150)]) (h1 := (px_G1, px_up q1 151 (px_wr (16 + x1)).toNat 2)) rfl ?_
  refine px_D_call (as := [.inr (.inr 150)]) (rest := []) rfl rfl rfl rfl ?_
  obtain ⟨q3, hq3, h⟩ := Option.bind_eq_some_iff.mp h
  refine px_D_mono (c_M_findsLeast (d := d + 0) hq3) ?_
  rintro _ _ ⟨rfl, rfl⟩
  show px_D sc (d + 9) 254 11 [(0, .inr (.inr 150)), (1, .inl (x1))] [] (px_G1, q3) _
  refine px_D_st 1 (ip1 := 12) (ls1 := [(0, .inr (.inr 150)), (1, .inl (x1))]) (st1 := [.inr (.inr 150)]) (h1 := (px_G1, q3)) rfl ?_
  refine px_D_call (as := [.inr (.inr 150)]) (rest := []) rfl rfl rfl rfl ?_
  obtain ⟨q4, hq4, h⟩ := Option.bind_eq_some_iff.mp h
  refine px_D_mono (c_M_leastNow (d := d + 6) hq4) ?_
  rintro _ _ ⟨rfl, rfl⟩
  show px_D sc (d + 9) 254 13 [(0, .inr (.inr 150)), (1, .inl (x1))] [.inl (q4)] (px_G1, q3) _
  refine px_D_st 2 (ip1 := 15) (ls1 := [(2, .inl (q4)), (0, .inr (.inr 150)), (1, .inl (x1))]) (st1 := [.inr (.inr 150)]) (h1 := (px_G1, q3)) rfl ?_
  refine px_D_call (as := [.inr (.inr 150)]) (rest := []) rfl rfl rfl rfl ?_
  obtain ⟨q5, hq5, h⟩ := Option.bind_eq_some_iff.mp h
  refine px_D_mono (c_M_endsThought (d := d + 8) hq5) ?_
  rintro _ _ ⟨rfl, rfl⟩
  show px_D sc (d + 9) 254 16 [(2, .inl (q4)), (0, .inr (.inr 150)), (1, .inl (x1))] [] (px_G1, q5) _
  refine px_D_st 2 (ip1 := 18) (ls1 := [(2, .inl (q4)), (0, .inr (.inr 150)), (1, .inl (x1))]) (st1 := [.inl (10000000), .inl (q4)]) (h1 := (px_G1, q5)) rfl ?_
  refine px_D_icmp rfl (fun hc => ?_) (fun hc => ?_)
  · have hc6 : (q4) < (10000000) := of_decide_eq_true hc
    rw [if_pos hc6] at h
    refine px_D_st 1 (ip1 := 22) (ls1 := [(2, .inl (q4)), (0, .inr (.inr 150)), (1, .inl (x1))]) (st1 := [.inl (q4)]) (h1 := (px_G1, q5)) rfl ?_
    cases h
    exact px_D_iret rfl rfl ⟨rfl, rfl⟩
  · have hc6 : ¬ ((q4) < (10000000)) := of_decide_eq_false hc
    rw [if_neg hc6] at h
    refine px_D_st 2 (ip1 := 22) (ls1 := [(2, .inl (q4)), (0, .inr (.inr 150)), (1, .inl (x1))]) (st1 := [.inl ((-1))]) (h1 := (px_G1, q5)) rfl ?_
    cases h
    exact px_D_iret rfl rfl ⟨rfl, rfl⟩

def l_M_hit_21 (k54 : px_Z → Int → Int → Int → Option (Int × px_Z)) : Nat → px_Z → Int → Int → Int → Int → Option (Int × px_Z)
  | 0, _, _, _, _, _ => none
  | n + 1, s, x1, x2, x3, x4 => if (px_wr ((s 150 6) - 1)) ≤ (x4) then k54 s x1 x2 x3 else (if 0 ≤ (px_wr (16 + x4)) ∧ (px_wr (16 + x4)) < 40 then if (s 151 (px_wr (16 + x4)).toNat) = (0) then (f_M_leastHit s x4).bind (fun q7 => if (q7.1) ≤ (x3) then l_M_hit_21 k54 n q7.2 x1 x2 (f_M_greater q7.2 q7.1 x3) (px_wr (x4 + 1)) else l_M_hit_21 k54 n q7.2 x1 x4 (f_M_greater q7.2 q7.1 x3) (px_wr (x4 + 1))) else (if ((-1)) ≤ (x3) then l_M_hit_21 k54 n s x1 x2 (f_M_greater s (-1) x3) (px_wr (x4 + 1)) else l_M_hit_21 k54 n s x1 x4 (f_M_greater s (-1) x3) (px_wr (x4 + 1))) else none)
set_option maxHeartbeats 4000000 in
set_option maxRecDepth 100000 in
theorem cl_M_hit_21 {sc : List Int} {d : Nat} {k54 : px_Z → Int → Int → Int → Option (Int × px_Z)}  (hk54 : ∀ (s : px_Z) (y1 : Int) (y2 : Int) (y3 : Int) (out : Int × px_Z), k54 s y1 y2 y3 = some out → px_D sc (d + 10) 255 54 [(1, .inl (y1)), (2, .inl (y2)), (3, .inl (y3))] [] (px_G1, s) (px_Qi out)) : ∀ (n : Nat) (s : px_Z) (x1 : Int) (x2 : Int) (x3 : Int) (x4 : Int) (out : Int × px_Z), l_M_hit_21 k54 n s x1 x2 x3 x4 = some out → px_D sc (d + 10) 255 21 [(0, .inr (.inr 150)), (1, .inl (x1)), (2, .inl (x2)), (3, .inl (x3)), (4, .inl (x4))] [] (px_G1, s) (px_Qi out) := by
  intro n
  induction n with
  | zero => intro s x1 x2 x3 x4 out h; cases h
  | succ n ih =>
    intro s x1 x2 x3 x4 out h
    rw [l_M_hit_21] at h
    refine px_D_st 5 (ip1 := 26) (ls1 := [(0, .inr (.inr 150)), (1, .inl (x1)), (2, .inl (x2)), (3, .inl (x3)), (4, .inl (x4))]) (st1 := [.inl (px_wr ((s 150 6) - 1)), .inl (x4)]) (h1 := (px_G1, s)) rfl ?_
    refine px_D_icmp rfl (fun hc => ?_) (fun hc => ?_)
    · have hc3 : (px_wr ((s 150 6) - 1)) ≤ (x4) := of_decide_eq_true hc
      rw [if_pos hc3] at h
      refine px_D_ls [(1, .inl (x1)), (2, .inl (x2)), (3, .inl (x3))] rfl rfl (List.forall_mem_cons.mpr ⟨rfl, List.forall_mem_cons.mpr ⟨rfl, List.forall_mem_cons.mpr ⟨rfl, fun _ h => absurd h List.not_mem_nil⟩⟩⟩) ?_
      exact hk54 _ _ _ _ _ h
    · have hc3 : ¬ ((px_wr ((s 150 6) - 1)) ≤ (x4)) := of_decide_eq_false hc
      rw [if_neg hc3] at h
      refine px_D_st 5 (ip1 := 32) (ls1 := [(0, .inr (.inr 150)), (1, .inl (x1)), (2, .inl (x2)), (3, .inl (x3)), (4, .inl (x4))]) (st1 := [.inl (px_wr (16 + x4)), .inr (.inr 151)]) (h1 := (px_G1, s)) rfl ?_
      by_cases hc4 : 0 ≤ (px_wr (16 + x4)) ∧ (px_wr (16 + x4)) < 40
      case neg => rw [if_neg hc4] at h; cases h
      rw [if_pos hc4] at h
      refine px_D_iald (k := 146) (n := 40) rfl rfl hc4 ?_
      refine px_D_ifc rfl (fun hc => ?_) (fun hc => ?_)
      · have hc5 : ¬ ((s 151 (px_wr (16 + x4)).toNat) = (0)) := of_decide_eq_true hc
        rw [if_neg hc5] at h
        refine px_D_st 4 (ip1 := 42) (ls1 := [(5, .inl ((-1))), (0, .inr (.inr 150)), (1, .inl (x1)), (2, .inl (x2)), (3, .inl (x3)), (4, .inl (x4))]) (st1 := [.inl (x3), .inl ((-1))]) (h1 := (px_G1, s)) rfl ?_
        refine px_D_icmp rfl (fun hc => ?_) (fun hc => ?_)
        · have hc6 : ((-1)) ≤ (x3) := of_decide_eq_true hc
          rw [if_pos hc6] at h
          refine px_D_st 5 (ip1 := 50) (ls1 := [(2, .inl (x2)), (5, .inl ((-1))), (0, .inr (.inr 150)), (1, .inl (x1)), (3, .inl (x3)), (4, .inl (x4))]) (st1 := [.inl (x3), .inl ((-1)), .inr (.inr 150)]) (h1 := (px_G1, s)) rfl ?_
          refine px_D_call (as := [.inr (.inr 150), .inl ((-1)), .inl (x3)]) (rest := []) rfl rfl rfl rfl ?_
          refine px_D_mono (c_M_greater (d := d + 9) rfl) ?_
          rintro _ _ ⟨rfl, rfl⟩
          show px_D sc (d + 10) 255 51 [(2, .inl (x2)), (5, .inl ((-1))), (0, .inr (.inr 150)), (1, .inl (x1)), (3, .inl (x3)), (4, .inl (x4))] [.inl (f_M_greater s (-1) x3)] (px_G1, s) _
          refine px_D_st 3 (ip1 := 21) (ls1 := [(4, .inl (px_wr (x4 + 1))), (3, .inl (f_M_greater s (-1) x3)), (2, .inl (x2)), (5, .inl ((-1))), (0, .inr (.inr 150)), (1, .inl (x1))]) (st1 := []) (h1 := (px_G1, s)) rfl ?_
          refine px_D_ls [(0, .inr (.inr 150)), (1, .inl (x1)), (2, .inl (x2)), (3, .inl (f_M_greater s (-1) x3)), (4, .inl (px_wr (x4 + 1)))] rfl rfl (List.forall_mem_cons.mpr ⟨rfl, List.forall_mem_cons.mpr ⟨rfl, List.forall_mem_cons.mpr ⟨rfl, List.forall_mem_cons.mpr ⟨rfl, List.forall_mem_cons.mpr ⟨rfl, fun _ h => absurd h List.not_mem_nil⟩⟩⟩⟩⟩) ?_
          exact ih _ _ _ _ _ _ h
        · have hc6 : ¬ (((-1)) ≤ (x3)) := of_decide_eq_false hc
          rw [if_neg hc6] at h
          refine px_D_st 6 (ip1 := 50) (ls1 := [(2, .inl (x4)), (5, .inl ((-1))), (0, .inr (.inr 150)), (1, .inl (x1)), (3, .inl (x3)), (4, .inl (x4))]) (st1 := [.inl (x3), .inl ((-1)), .inr (.inr 150)]) (h1 := (px_G1, s)) rfl ?_
          refine px_D_call (as := [.inr (.inr 150), .inl ((-1)), .inl (x3)]) (rest := []) rfl rfl rfl rfl ?_
          refine px_D_mono (c_M_greater (d := d + 9) rfl) ?_
          rintro _ _ ⟨rfl, rfl⟩
          show px_D sc (d + 10) 255 51 [(2, .inl (x4)), (5, .inl ((-1))), (0, .inr (.inr 150)), (1, .inl (x1)), (3, .inl (x3)), (4, .inl (x4))] [.inl (f_M_greater s (-1) x3)] (px_G1, s) _
          refine px_D_st 3 (ip1 := 21) (ls1 := [(4, .inl (px_wr (x4 + 1))), (3, .inl (f_M_greater s (-1) x3)), (2, .inl (x4)), (5, .inl ((-1))), (0, .inr (.inr 150)), (1, .inl (x1))]) (st1 := []) (h1 := (px_G1, s)) rfl ?_
          refine px_D_ls [(0, .inr (.inr 150)), (1, .inl (x1)), (2, .inl (x4)), (3, .inl (f_M_greater s (-1) x3)), (4, .inl (px_wr (x4 + 1)))] rfl rfl (List.forall_mem_cons.mpr ⟨rfl, List.forall_mem_cons.mpr ⟨rfl, List.forall_mem_cons.mpr ⟨rfl, List.forall_mem_cons.mpr ⟨rfl, List.forall_mem_cons.mpr ⟨rfl, fun _ h => absurd h List.not_mem_nil⟩⟩⟩⟩⟩) ?_
          exact ih _ _ _ _ _ _ h
      · have hc5 : (s 151 (px_wr (16 + x4)).toNat) = (0) := Decidable.of_not_not (of_decide_eq_false hc)
        rw [if_pos hc5] at h
        refine px_D_st 2 (ip1 := 36) (ls1 := [(0, .inr (.inr 150)), (1, .inl (x1)), (2, .inl (x2)), (3, .inl (x3)), (4, .inl (x4))]) (st1 := [.inl (x4), .inr (.inr 150)]) (h1 := (px_G1, s)) rfl ?_
        refine px_D_call (as := [.inr (.inr 150), .inl (x4)]) (rest := []) rfl rfl rfl rfl ?_
        obtain ⟨q7, hq7, h⟩ := Option.bind_eq_some_iff.mp h
        refine px_D_mono (c_M_leastHit (d := d + 0) hq7) ?_
        rintro _ _ ⟨rfl, rfl⟩
        show px_D sc (d + 10) 255 37 [(0, .inr (.inr 150)), (1, .inl (x1)), (2, .inl (x2)), (3, .inl (x3)), (4, .inl (x4))] [.inl (q7.1)] (px_G1, q7.2) _
        refine px_D_st 4 (ip1 := 42) (ls1 := [(5, .inl (q7.1)), (0, .inr (.inr 150)), (1, .inl (x1)), (2, .inl (x2)), (3, .inl (x3)), (4, .inl (x4))]) (st1 := [.inl (x3), .inl (q7.1)]) (h1 := (px_G1, q7.2)) rfl ?_
        refine px_D_icmp rfl (fun hc => ?_) (fun hc => ?_)
        · have hc8 : (q7.1) ≤ (x3) := of_decide_eq_true hc
          rw [if_pos hc8] at h
          refine px_D_st 5 (ip1 := 50) (ls1 := [(2, .inl (x2)), (5, .inl (q7.1)), (0, .inr (.inr 150)), (1, .inl (x1)), (3, .inl (x3)), (4, .inl (x4))]) (st1 := [.inl (x3), .inl (q7.1), .inr (.inr 150)]) (h1 := (px_G1, q7.2)) rfl ?_
          refine px_D_call (as := [.inr (.inr 150), .inl (q7.1), .inl (x3)]) (rest := []) rfl rfl rfl rfl ?_
          refine px_D_mono (c_M_greater (d := d + 9) rfl) ?_
          rintro _ _ ⟨rfl, rfl⟩
          show px_D sc (d + 10) 255 51 [(2, .inl (x2)), (5, .inl (q7.1)), (0, .inr (.inr 150)), (1, .inl (x1)), (3, .inl (x3)), (4, .inl (x4))] [.inl (f_M_greater q7.2 q7.1 x3)] (px_G1, q7.2) _
          refine px_D_st 3 (ip1 := 21) (ls1 := [(4, .inl (px_wr (x4 + 1))), (3, .inl (f_M_greater q7.2 q7.1 x3)), (2, .inl (x2)), (5, .inl (q7.1)), (0, .inr (.inr 150)), (1, .inl (x1))]) (st1 := []) (h1 := (px_G1, q7.2)) rfl ?_
          refine px_D_ls [(0, .inr (.inr 150)), (1, .inl (x1)), (2, .inl (x2)), (3, .inl (f_M_greater q7.2 q7.1 x3)), (4, .inl (px_wr (x4 + 1)))] rfl rfl (List.forall_mem_cons.mpr ⟨rfl, List.forall_mem_cons.mpr ⟨rfl, List.forall_mem_cons.mpr ⟨rfl, List.forall_mem_cons.mpr ⟨rfl, List.forall_mem_cons.mpr ⟨rfl, fun _ h => absurd h List.not_mem_nil⟩⟩⟩⟩⟩) ?_
          exact ih _ _ _ _ _ _ h
        · have hc8 : ¬ ((q7.1) ≤ (x3)) := of_decide_eq_false hc
          rw [if_neg hc8] at h
          refine px_D_st 6 (ip1 := 50) (ls1 := [(2, .inl (x4)), (5, .inl (q7.1)), (0, .inr (.inr 150)), (1, .inl (x1)), (3, .inl (x3)), (4, .inl (x4))]) (st1 := [.inl (x3), .inl (q7.1), .inr (.inr 150)]) (h1 := (px_G1, q7.2)) rfl ?_
          refine px_D_call (as := [.inr (.inr 150), .inl (q7.1), .inl (x3)]) (rest := []) rfl rfl rfl rfl ?_
          refine px_D_mono (c_M_greater (d := d + 9) rfl) ?_
          rintro _ _ ⟨rfl, rfl⟩
          show px_D sc (d + 10) 255 51 [(2, .inl (x4)), (5, .inl (q7.1)), (0, .inr (.inr 150)), (1, .inl (x1)), (3, .inl (x3)), (4, .inl (x4))] [.inl (f_M_greater q7.2 q7.1 x3)] (px_G1, q7.2) _
          refine px_D_st 3 (ip1 := 21) (ls1 := [(4, .inl (px_wr (x4 + 1))), (3, .inl (f_M_greater q7.2 q7.1 x3)), (2, .inl (x4)), (5, .inl (q7.1)), (0, .inr (.inr 150)), (1, .inl (x1))]) (st1 := []) (h1 := (px_G1, q7.2)) rfl ?_
          refine px_D_ls [(0, .inr (.inr 150)), (1, .inl (x1)), (2, .inl (x4)), (3, .inl (f_M_greater q7.2 q7.1 x3)), (4, .inl (px_wr (x4 + 1)))] rfl rfl (List.forall_mem_cons.mpr ⟨rfl, List.forall_mem_cons.mpr ⟨rfl, List.forall_mem_cons.mpr ⟨rfl, List.forall_mem_cons.mpr ⟨rfl, List.forall_mem_cons.mpr ⟨rfl, fun _ h => absurd h List.not_mem_nil⟩⟩⟩⟩⟩) ?_
          exact ih _ _ _ _ _ _ h
def f_M_hit (s : px_Z) (x1 : Int) : Option (Int × px_Z) := if (f_M_isIn (px_up s 150 0 0) x1 0 1) = (0) then some (((-1), px_up s 150 0 0)) else (if (1) ≤ (f_M_weeksLeft (px_up s 150 0 0) ) then l_M_hit_21 (fun s x1 x2 x3 => if (x1) = (0) then some (x2, s) else some (x3, s)) px_big (px_up s 150 0 0) x1 (-1) (-1) 0 else some (((-1), px_up s 150 0 0)))
set_option maxHeartbeats 4000000 in
set_option maxRecDepth 100000 in
theorem c_M_hit {sc : List Int} {d : Nat} {s : px_Z} {x1 : Int} {out : Int × px_Z} (h : f_M_hit s x1 = some out) : px_D sc (d + 10) 255 0 [(0, .inr (.inr 150)), (1, .inl (x1))] [] (px_G1, s) (px_Qi out) := by
  unfold f_M_hit at h
  refine px_D_st 7 (ip1 := 7) (ls1 := [(0, .inr (.inr 150)), (1, .inl (x1))]) (st1 := [.inl (1), .inl (0), .inl (x1), .inr (.inr 150)]) (h1 := (px_G1, px_up s 150 0 0)) rfl ?_
  refine px_D_call (as := [.inr (.inr 150), .inl (x1), .inl (0), .inl (1)]) (rest := []) rfl rfl rfl rfl ?_
  refine px_D_mono (c_M_isIn (d := d + 9) rfl) ?_
  rintro _ _ ⟨rfl, rfl⟩
  show px_D sc (d + 10) 255 8 [(0, .inr (.inr 150)), (1, .inl (x1))] [.inl (f_M_isIn (px_up s 150 0 0) x1 0 1)] (px_G1, px_up s 150 0 0) _
  refine px_D_ifc rfl (fun hc => ?_) (fun hc => ?_)
  · have hc1 : (f_M_isIn (px_up s 150 0 0) x1 0 1) = (0) := of_decide_eq_true hc
    rw [if_pos hc1] at h
    refine px_D_st 1 (ip1 := 14) (ls1 := [(0, .inr (.inr 150)), (1, .inl (x1))]) (st1 := [.inl ((-1))]) (h1 := (px_G1, px_up s 150 0 0)) rfl ?_
    cases h
    exact px_D_iret rfl rfl ⟨rfl, rfl⟩
  · have hc1 : ¬ ((f_M_isIn (px_up s 150 0 0) x1 0 1) = (0)) := of_decide_eq_false hc
    rw [if_neg hc1] at h
    refine px_D_st 1 (ip1 := 10) (ls1 := [(0, .inr (.inr 150)), (1, .inl (x1))]) (st1 := [.inr (.inr 150)]) (h1 := (px_G1, px_up s 150 0 0)) rfl ?_
    refine px_D_call (as := [.inr (.inr 150)]) (rest := []) rfl rfl rfl rfl ?_
    refine px_D_mono (c_M_weeksLeft (d := d + 8) rfl) ?_
    rintro _ _ ⟨rfl, rfl⟩
    show px_D sc (d + 10) 255 11 [(0, .inr (.inr 150)), (1, .inl (x1))] [.inl (f_M_weeksLeft (px_up s 150 0 0) )] (px_G1, px_up s 150 0 0) _
    refine px_D_st 1 (ip1 := 12) (ls1 := [(0, .inr (.inr 150)), (1, .inl (x1))]) (st1 := [.inl (1), .inl (f_M_weeksLeft (px_up s 150 0 0) )]) (h1 := (px_G1, px_up s 150 0 0)) rfl ?_
    refine px_D_icmp rfl (fun hc => ?_) (fun hc => ?_)
    · have hc2 : (1) ≤ (f_M_weeksLeft (px_up s 150 0 0) ) := of_decide_eq_true hc
      rw [if_pos hc2] at h
      refine px_D_st 6 (ip1 := 21) (ls1 := [(4, .inl (0)), (3, .inl ((-1))), (2, .inl ((-1))), (0, .inr (.inr 150)), (1, .inl (x1))]) (st1 := []) (h1 := (px_G1, px_up s 150 0 0)) rfl ?_
      refine px_D_ls [(0, .inr (.inr 150)), (1, .inl (x1)), (2, .inl ((-1))), (3, .inl ((-1))), (4, .inl (0))] rfl rfl (List.forall_mem_cons.mpr ⟨rfl, List.forall_mem_cons.mpr ⟨rfl, List.forall_mem_cons.mpr ⟨rfl, List.forall_mem_cons.mpr ⟨rfl, List.forall_mem_cons.mpr ⟨rfl, fun _ h => absurd h List.not_mem_nil⟩⟩⟩⟩⟩) ?_
      refine cl_M_hit_21 ?_ px_big _ _ _ _ _ _ h
      · intro s x1 x2 x3 out h
        refine px_D_st 1 (ip1 := 55) (ls1 := [(1, .inl (x1)), (2, .inl (x2)), (3, .inl (x3))]) (st1 := [.inl (x1)]) (h1 := (px_G1, s)) rfl ?_
        refine px_D_ifc rfl (fun hc => ?_) (fun hc => ?_)
        · have hc9 : ¬ ((x1) = (0)) := of_decide_eq_true hc
          rw [if_neg hc9] at h
          refine px_D_st 1 (ip1 := 59) (ls1 := [(1, .inl (x1)), (2, .inl (x2)), (3, .inl (x3))]) (st1 := [.inl (x3)]) (h1 := (px_G1, s)) rfl ?_
          cases h
          exact px_D_iret rfl rfl ⟨rfl, rfl⟩
        · have hc9 : (x1) = (0) := Decidable.of_not_not (of_decide_eq_false hc)
          rw [if_pos hc9] at h
          refine px_D_st 2 (ip1 := 59) (ls1 := [(1, .inl (x1)), (2, .inl (x2)), (3, .inl (x3))]) (st1 := [.inl (x2)]) (h1 := (px_G1, s)) rfl ?_
          cases h
          exact px_D_iret rfl rfl ⟨rfl, rfl⟩
    · have hc2 : ¬ ((1) ≤ (f_M_weeksLeft (px_up s 150 0 0) )) := of_decide_eq_false hc
      rw [if_neg hc2] at h
      refine px_D_st 1 (ip1 := 14) (ls1 := [(0, .inr (.inr 150)), (1, .inl (x1))]) (st1 := [.inl ((-1))]) (h1 := (px_G1, px_up s 150 0 0)) rfl ?_
      cases h
      exact px_D_iret rfl rfl ⟨rfl, rfl⟩

def l_M_canFollow_18 (s : px_Z)  : Nat → Int → Int → Int → Option (Int)
  | 0, _, _, _ => none
  | n + 1, x1, x2, x4 => if (s 150 51) ≤ (x4) then some 1 else (if (px_and ((px_shr (x2) (x4))) (1)) = (1) then (if 0 ≤ (x1) ∧ (x1) < 8 then if 0 ≤ (x4) ∧ (x4) < 8 then if (px_and ((s 178 x1.toNat)) ((px_xor ((s 178 x4.toNat)) ((-1))))) = (0) then l_M_canFollow_18 s  n x1 x2 (px_wr (x4 + 1)) else some 0 else none else none) else l_M_canFollow_18 s  n x1 x2 (px_wr (x4 + 1)))
set_option maxHeartbeats 4000000 in
set_option maxRecDepth 100000 in
theorem cl_M_canFollow_18 {sc : List Int} {d : Nat} {s : px_Z}  : ∀ (n : Nat) (x1 : Int) (x2 : Int) (x4 : Int) (out : Int), l_M_canFollow_18 s  n x1 x2 x4 = some out → px_D sc (d + 2) 256 18 [(0, .inr (.inr 150)), (1, .inl (x1)), (2, .inl (x2)), (4, .inl (x4))] [] (px_G1, s) (px_Qp s out) := by
  intro n
  induction n with
  | zero => intro x1 x2 x4 out h; cases h
  | succ n ih =>
    intro x1 x2 x4 out h
    rw [l_M_canFollow_18] at h
    refine px_D_st 3 (ip1 := 21) (ls1 := [(0, .inr (.inr 150)), (1, .inl (x1)), (2, .inl (x2)), (4, .inl (x4))]) (st1 := [.inl (s 150 51), .inl (x4)]) (h1 := (px_G1, s)) rfl ?_
    refine px_D_icmp rfl (fun hc => ?_) (fun hc => ?_)
    · have hc3 : (s 150 51) ≤ (x4) := of_decide_eq_true hc
      rw [if_pos hc3] at h
      refine px_D_st 1 (ip1 := 46) (ls1 := [(0, .inr (.inr 150)), (1, .inl (x1)), (2, .inl (x2)), (4, .inl (x4))]) (st1 := [.inl (1)]) (h1 := (px_G1, s)) rfl ?_
      cases h
      exact px_D_iret rfl rfl ⟨rfl, rfl⟩
    · have hc3 : ¬ ((s 150 51) ≤ (x4)) := of_decide_eq_false hc
      rw [if_neg hc3] at h
      refine px_D_st 6 (ip1 := 28) (ls1 := [(0, .inr (.inr 150)), (1, .inl (x1)), (2, .inl (x2)), (4, .inl (x4))]) (st1 := [.inl (1), .inl (px_and ((px_shr (x2) (x4))) (1))]) (h1 := (px_G1, s)) rfl ?_
      refine px_D_icmp rfl (fun hc => ?_) (fun hc => ?_)
      · have hc4 : ¬ ((px_and ((px_shr (x2) (x4))) (1)) = (1)) := of_decide_eq_true hc
        rw [if_neg hc4] at h
        refine px_D_st 2 (ip1 := 18) (ls1 := [(4, .inl (px_wr (x4 + 1))), (0, .inr (.inr 150)), (1, .inl (x1)), (2, .inl (x2))]) (st1 := []) (h1 := (px_G1, s)) rfl ?_
        refine px_D_ls [(0, .inr (.inr 150)), (1, .inl (x1)), (2, .inl (x2)), (4, .inl (px_wr (x4 + 1)))] rfl rfl (List.forall_mem_cons.mpr ⟨rfl, List.forall_mem_cons.mpr ⟨rfl, List.forall_mem_cons.mpr ⟨rfl, List.forall_mem_cons.mpr ⟨rfl, fun _ h => absurd h List.not_mem_nil⟩⟩⟩⟩) ?_
        exact ih _ _ _ _ h
      · have hc4 : (px_and ((px_shr (x2) (x4))) (1)) = (1) := Decidable.of_not_not (of_decide_eq_false hc)
        rw [if_pos hc4] at h
        refine px_D_st 3 (ip1 := 32) (ls1 := [(0, .inr (.inr 150)), (1, .inl (x1)), (2, .inl (x2)), (4, .inl (x4))]) (st1 := [.inl (x1), .inr (.inr 178)]) (h1 := (px_G1, s)) rfl ?_
        by_cases hc5 : 0 ≤ (x1) ∧ (x1) < 8
        case neg => rw [if_neg hc5] at h; cases h
        rw [if_pos hc5] at h
        refine px_D_iald (k := 173) (n := 8) rfl rfl hc5 ?_
        refine px_D_st 3 (ip1 := 36) (ls1 := [(0, .inr (.inr 150)), (1, .inl (x1)), (2, .inl (x2)), (4, .inl (x4))]) (st1 := [.inl (x4), .inr (.inr 178), .inl (s 178 x1.toNat)]) (h1 := (px_G1, s)) rfl ?_
        by_cases hc6 : 0 ≤ (x4) ∧ (x4) < 8
        case neg => rw [if_neg hc6] at h; cases h
        rw [if_pos hc6] at h
        refine px_D_iald (k := 173) (n := 8) rfl rfl hc6 ?_
        refine px_D_st 3 (ip1 := 40) (ls1 := [(0, .inr (.inr 150)), (1, .inl (x1)), (2, .inl (x2)), (4, .inl (x4))]) (st1 := [.inl (px_and ((s 178 x1.toNat)) ((px_xor ((s 178 x4.toNat)) ((-1)))))]) (h1 := (px_G1, s)) rfl ?_
        refine px_D_ifc rfl (fun hc => ?_) (fun hc => ?_)
        · have hc7 : (px_and ((s 178 x1.toNat)) ((px_xor ((s 178 x4.toNat)) ((-1))))) = (0) := of_decide_eq_true hc
          rw [if_pos hc7] at h
          refine px_D_st 2 (ip1 := 18) (ls1 := [(4, .inl (px_wr (x4 + 1))), (0, .inr (.inr 150)), (1, .inl (x1)), (2, .inl (x2))]) (st1 := []) (h1 := (px_G1, s)) rfl ?_
          refine px_D_ls [(0, .inr (.inr 150)), (1, .inl (x1)), (2, .inl (x2)), (4, .inl (px_wr (x4 + 1)))] rfl rfl (List.forall_mem_cons.mpr ⟨rfl, List.forall_mem_cons.mpr ⟨rfl, List.forall_mem_cons.mpr ⟨rfl, List.forall_mem_cons.mpr ⟨rfl, fun _ h => absurd h List.not_mem_nil⟩⟩⟩⟩) ?_
          exact ih _ _ _ _ h
        · have hc7 : ¬ ((px_and ((s 178 x1.toNat)) ((px_xor ((s 178 x4.toNat)) ((-1))))) = (0)) := of_decide_eq_false hc
          rw [if_neg hc7] at h
          refine px_D_st 1 (ip1 := 42) (ls1 := [(0, .inr (.inr 150)), (1, .inl (x1)), (2, .inl (x2)), (4, .inl (x4))]) (st1 := [.inl (0)]) (h1 := (px_G1, s)) rfl ?_
          cases h
          exact px_D_iret rfl rfl ⟨rfl, rfl⟩
def f_M_canFollow (s : px_Z) (x1 : Int) (x2 : Int) (x3 : Int) : Option (Int) := if (x3) = (0) then (f_M_canCome s x1 x2).bind (fun q8 => if (q8) = 0 ∨ (q8) = 1 then some q8 else none) else (if (px_and ((px_shr (x2) (x1))) (1)) = (1) then some 0 else l_M_canFollow_18 s  px_big x1 x2 0)
set_option maxHeartbeats 4000000 in
set_option maxRecDepth 100000 in
theorem c_M_canFollow {sc : List Int} {d : Nat} {s : px_Z} {x1 : Int} {x2 : Int} {x3 : Int} {out : Int} (h : f_M_canFollow s x1 x2 x3 = some out) : px_D sc (d + 2) 256 0 [(0, .inr (.inr 150)), (1, .inl (x1)), (2, .inl (x2)), (3, .inl (x3))] [] (px_G1, s) (px_Qp s out) := by
  unfold f_M_canFollow at h
  refine px_D_st 1 (ip1 := 1) (ls1 := [(0, .inr (.inr 150)), (1, .inl (x1)), (2, .inl (x2)), (3, .inl (x3))]) (st1 := [.inl (x3)]) (h1 := (px_G1, s)) rfl ?_
  refine px_D_ifc rfl (fun hc => ?_) (fun hc => ?_)
  · have hc1 : ¬ ((x3) = (0)) := of_decide_eq_true hc
    rw [if_neg hc1] at h
    refine px_D_st 6 (ip1 := 13) (ls1 := [(0, .inr (.inr 150)), (1, .inl (x1)), (2, .inl (x2)), (3, .inl (x3))]) (st1 := [.inl (1), .inl (px_and ((px_shr (x2) (x1))) (1))]) (h1 := (px_G1, s)) rfl ?_
    refine px_D_icmp rfl (fun hc => ?_) (fun hc => ?_)
    · have hc2 : ¬ ((px_and ((px_shr (x2) (x1))) (1)) = (1)) := of_decide_eq_true hc
      rw [if_neg hc2] at h
      refine px_D_st 2 (ip1 := 18) (ls1 := [(4, .inl (0)), (0, .inr (.inr 150)), (1, .inl (x1)), (2, .inl (x2)), (3, .inl (x3))]) (st1 := []) (h1 := (px_G1, s)) rfl ?_
      refine px_D_ls [(0, .inr (.inr 150)), (1, .inl (x1)), (2, .inl (x2)), (4, .inl (0))] rfl rfl (List.forall_mem_cons.mpr ⟨rfl, List.forall_mem_cons.mpr ⟨rfl, List.forall_mem_cons.mpr ⟨rfl, List.forall_mem_cons.mpr ⟨rfl, fun _ h => absurd h List.not_mem_nil⟩⟩⟩⟩) ?_
      refine cl_M_canFollow_18  px_big _ _ _ _ h
    · have hc2 : (px_and ((px_shr (x2) (x1))) (1)) = (1) := Decidable.of_not_not (of_decide_eq_false hc)
      rw [if_pos hc2] at h
      refine px_D_st 1 (ip1 := 15) (ls1 := [(0, .inr (.inr 150)), (1, .inl (x1)), (2, .inl (x2)), (3, .inl (x3))]) (st1 := [.inl (0)]) (h1 := (px_G1, s)) rfl ?_
      cases h
      exact px_D_iret rfl rfl ⟨rfl, rfl⟩
  · have hc1 : (x3) = (0) := Decidable.of_not_not (of_decide_eq_false hc)
    rw [if_pos hc1] at h
    refine px_D_st 3 (ip1 := 5) (ls1 := [(0, .inr (.inr 150)), (1, .inl (x1)), (2, .inl (x2)), (3, .inl (x3))]) (st1 := [.inl (x2), .inl (x1), .inr (.inr 150)]) (h1 := (px_G1, s)) rfl ?_
    refine px_D_call (as := [.inr (.inr 150), .inl (x1), .inl (x2)]) (rest := []) rfl rfl rfl rfl ?_
    obtain ⟨q8, hq8, h⟩ := Option.bind_eq_some_iff.mp h
    refine px_D_mono (c_M_canCome (d := d + 0) hq8) ?_
    rintro _ _ ⟨rfl, rfl⟩
    show px_D sc (d + 2) 256 6 [(0, .inr (.inr 150)), (1, .inl (x1)), (2, .inl (x2)), (3, .inl (x3))] [.inl (q8)] (px_G1, s) _
    by_cases hc9 : (q8) = 0 ∨ (q8) = 1
    case neg => rw [if_neg hc9] at h; cases h
    rw [if_pos hc9] at h
    cases h
    exact px_D_iret rfl (px_bz hc9) ⟨rfl, rfl⟩

def l_M_findsOrders_22 (k50 : px_Z → Int → Int → Int → Int → Option (px_Z)) : Nat → px_Z → Int → Int → Int → Int → Int → Option (px_Z)
  | 0, _, _, _, _, _, _ => none
  | n + 1, s, x1, x2, x3, x4, x5 => if (x1) ≤ (x5) then k50 s x1 x2 x3 x4 else (f_M_canFollow s x5 x4 x2).bind (fun q5 => if (q5) = (0) then l_M_findsOrders_22 k50 n s x1 x2 x3 x4 (px_wr (x5 + 1)) else (if 0 ≤ (x4) ∧ (x4) < 256 then if 0 ≤ (px_or (x4) ((px_shl (1) (x5)))) ∧ (px_or (x4) ((px_shl (1) (x5)))) < 256 then if 0 ≤ (x4) ∧ (x4) < 256 then l_M_findsOrders_22 k50 n (px_up s 177 x4.toNat (px_wr ((s 177 x4.toNat) + (s 177 (px_or (x4) ((px_shl (1) (x5)))).toNat)))) x1 x2 x3 x4 (px_wr (x5 + 1)) else none else none else none))
set_option maxHeartbeats 4000000 in
set_option maxRecDepth 100000 in
theorem cl_M_findsOrders_22 {sc : List Int} {d : Nat} {k50 : px_Z → Int → Int → Int → Int → Option (px_Z)}  (hk50 : ∀ (s : px_Z) (y1 : Int) (y2 : Int) (y3 : Int) (y4 : Int) (out : px_Z), k50 s y1 y2 y3 y4 = some out → px_D sc (d + 3) 257 50 [(0, .inr (.inr 150)), (1, .inl (y1)), (2, .inl (y2)), (3, .inl (y3)), (4, .inl (y4))] [] (px_G1, s) (px_Qv out)) : ∀ (n : Nat) (s : px_Z) (x1 : Int) (x2 : Int) (x3 : Int) (x4 : Int) (x5 : Int) (out : px_Z), l_M_findsOrders_22 k50 n s x1 x2 x3 x4 x5 = some out → px_D sc (d + 3) 257 22 [(0, .inr (.inr 150)), (1, .inl (x1)), (2, .inl (x2)), (3, .inl (x3)), (4, .inl (x4)), (5, .inl (x5))] [] (px_G1, s) (px_Qv out) := by
  intro n
  induction n with
  | zero => intro s x1 x2 x3 x4 x5 out h; cases h
  | succ n ih =>
    intro s x1 x2 x3 x4 x5 out h
    rw [l_M_findsOrders_22] at h
    refine px_D_st 2 (ip1 := 24) (ls1 := [(0, .inr (.inr 150)), (1, .inl (x1)), (2, .inl (x2)), (3, .inl (x3)), (4, .inl (x4)), (5, .inl (x5))]) (st1 := [.inl (x1), .inl (x5)]) (h1 := (px_G1, s)) rfl ?_
    refine px_D_icmp rfl (fun hc => ?_) (fun hc => ?_)
    · have hc4 : (x1) ≤ (x5) := of_decide_eq_true hc
      rw [if_pos hc4] at h
      refine px_D_ls [(0, .inr (.inr 150)), (1, .inl (x1)), (2, .inl (x2)), (3, .inl (x3)), (4, .inl (x4))] rfl rfl (List.forall_mem_cons.mpr ⟨rfl, List.forall_mem_cons.mpr ⟨rfl, List.forall_mem_cons.mpr ⟨rfl, List.forall_mem_cons.mpr ⟨rfl, List.forall_mem_cons.mpr ⟨rfl, fun _ h => absurd h List.not_mem_nil⟩⟩⟩⟩⟩) ?_
      exact hk50 _ _ _ _ _ _ h
    · have hc4 : ¬ ((x1) ≤ (x5)) := of_decide_eq_false hc
      rw [if_neg hc4] at h
      refine px_D_st 4 (ip1 := 29) (ls1 := [(0, .inr (.inr 150)), (1, .inl (x1)), (2, .inl (x2)), (3, .inl (x3)), (4, .inl (x4)), (5, .inl (x5))]) (st1 := [.inl (x2), .inl (x4), .inl (x5), .inr (.inr 150)]) (h1 := (px_G1, s)) rfl ?_
      refine px_D_call (as := [.inr (.inr 150), .inl (x5), .inl (x4), .inl (x2)]) (rest := []) rfl rfl rfl rfl ?_
      obtain ⟨q5, hq5, h⟩ := Option.bind_eq_some_iff.mp h
      refine px_D_mono (c_M_canFollow (d := d + 0) hq5) ?_
      rintro _ _ ⟨rfl, rfl⟩
      show px_D sc (d + 3) 257 30 [(0, .inr (.inr 150)), (1, .inl (x1)), (2, .inl (x2)), (3, .inl (x3)), (4, .inl (x4)), (5, .inl (x5))] [.inl (q5)] (px_G1, s) _
      refine px_D_ifc rfl (fun hc => ?_) (fun hc => ?_)
      · have hc6 : (q5) = (0) := of_decide_eq_true hc
        rw [if_pos hc6] at h
        refine px_D_st 2 (ip1 := 22) (ls1 := [(5, .inl (px_wr (x5 + 1))), (0, .inr (.inr 150)), (1, .inl (x1)), (2, .inl (x2)), (3, .inl (x3)), (4, .inl (x4))]) (st1 := []) (h1 := (px_G1, s)) rfl ?_
        refine px_D_ls [(0, .inr (.inr 150)), (1, .inl (x1)), (2, .inl (x2)), (3, .inl (x3)), (4, .inl (x4)), (5, .inl (px_wr (x5 + 1)))] rfl rfl (List.forall_mem_cons.mpr ⟨rfl, List.forall_mem_cons.mpr ⟨rfl, List.forall_mem_cons.mpr ⟨rfl, List.forall_mem_cons.mpr ⟨rfl, List.forall_mem_cons.mpr ⟨rfl, List.forall_mem_cons.mpr ⟨rfl, fun _ h => absurd h List.not_mem_nil⟩⟩⟩⟩⟩⟩) ?_
        exact ih _ _ _ _ _ _ _ h
      · have hc6 : ¬ ((q5) = (0)) := of_decide_eq_false hc
        rw [if_neg hc6] at h
        refine px_D_st 6 (ip1 := 37) (ls1 := [(0, .inr (.inr 150)), (1, .inl (x1)), (2, .inl (x2)), (3, .inl (x3)), (4, .inl (x4)), (5, .inl (x5))]) (st1 := [.inl (x4), .inr (.inr 177), .inl (x4), .inr (.inr 177)]) (h1 := (px_G1, s)) rfl ?_
        by_cases hc7 : 0 ≤ (x4) ∧ (x4) < 256
        case neg => rw [if_neg hc7] at h; cases h
        rw [if_pos hc7] at h
        refine px_D_iald (k := 172) (n := 256) rfl rfl hc7 ?_
        refine px_D_st 7 (ip1 := 45) (ls1 := [(0, .inr (.inr 150)), (1, .inl (x1)), (2, .inl (x2)), (3, .inl (x3)), (4, .inl (x4)), (5, .inl (x5))]) (st1 := [.inl (px_or (x4) ((px_shl (1) (x5)))), .inr (.inr 177), .inl (s 177 x4.toNat), .inl (x4), .inr (.inr 177)]) (h1 := (px_G1, s)) rfl ?_
        by_cases hc8 : 0 ≤ (px_or (x4) ((px_shl (1) (x5)))) ∧ (px_or (x4) ((px_shl (1) (x5)))) < 256
        case neg => rw [if_neg hc8] at h; cases h
        rw [if_pos hc8] at h
        refine px_D_iald (k := 172) (n := 256) rfl rfl hc8 ?_
        refine px_D_st 1 (ip1 := 47) (ls1 := [(0, .inr (.inr 150)), (1, .inl (x1)), (2, .inl (x2)), (3, .inl (x3)), (4, .inl (x4)), (5, .inl (x5))]) (st1 := [.inl (px_wr ((s 177 x4.toNat) + (s 177 (px_or (x4) ((px_shl (1) (x5)))).toNat))), .inl (x4), .inr (.inr 177)]) (h1 := (px_G1, s)) rfl ?_
        by_cases hc9 : 0 ≤ (x4) ∧ (x4) < 256
        case neg => rw [if_neg hc9] at h; cases h
        rw [if_pos hc9] at h
        refine px_D_iast (k := 172) (n := 256) rfl rfl hc9 ?_
        refine px_D_st 2 (ip1 := 22) (ls1 := [(5, .inl (px_wr (x5 + 1))), (0, .inr (.inr 150)), (1, .inl (x1)), (2, .inl (x2)), (3, .inl (x3)), (4, .inl (x4))]) (st1 := []) (h1 := (px_G1, px_up s 177 x4.toNat (px_wr ((s 177 x4.toNat) + (s 177 (px_or (x4) ((px_shl (1) (x5)))).toNat))))) rfl ?_
        refine px_D_ls [(0, .inr (.inr 150)), (1, .inl (x1)), (2, .inl (x2)), (3, .inl (x3)), (4, .inl (x4)), (5, .inl (px_wr (x5 + 1)))] rfl rfl (List.forall_mem_cons.mpr ⟨rfl, List.forall_mem_cons.mpr ⟨rfl, List.forall_mem_cons.mpr ⟨rfl, List.forall_mem_cons.mpr ⟨rfl, List.forall_mem_cons.mpr ⟨rfl, List.forall_mem_cons.mpr ⟨rfl, fun _ h => absurd h List.not_mem_nil⟩⟩⟩⟩⟩⟩) ?_
        exact ih _ _ _ _ _ _ _ h
def l_M_findsOrders_8  : Nat → px_Z → Int → Int → Int → Int → Option (px_Z)
  | 0, _, _, _, _, _ => none
  | n + 1, s, x1, x2, x3, x4 => if (x4) < (0) then some s else (if (x4) = (x3) then (if 0 ≤ (x4) ∧ (x4) < 256 then l_M_findsOrders_22 (fun s x1 x2 x3 x4 => l_M_findsOrders_8  n s x1 x2 x3 (px_wr (x4 + (-1)))) px_big (px_up s 177 x4.toNat 1) x1 x2 x3 x4 0 else none) else (if 0 ≤ (x4) ∧ (x4) < 256 then l_M_findsOrders_22 (fun s x1 x2 x3 x4 => l_M_findsOrders_8  n s x1 x2 x3 (px_wr (x4 + (-1)))) px_big (px_up s 177 x4.toNat 0) x1 x2 x3 x4 0 else none))
set_option maxHeartbeats 4000000 in
set_option maxRecDepth 100000 in
theorem cl_M_findsOrders_8 {sc : List Int} {d : Nat}  : ∀ (n : Nat) (s : px_Z) (x1 : Int) (x2 : Int) (x3 : Int) (x4 : Int) (out : px_Z), l_M_findsOrders_8  n s x1 x2 x3 x4 = some out → px_D sc (d + 3) 257 8 [(0, .inr (.inr 150)), (1, .inl (x1)), (2, .inl (x2)), (3, .inl (x3)), (4, .inl (x4))] [] (px_G1, s) (px_Qv out) := by
  intro n
  induction n with
  | zero => intro s x1 x2 x3 x4 out h; cases h
  | succ n ih =>
    intro s x1 x2 x3 x4 out h
    rw [l_M_findsOrders_8] at h
    refine px_D_st 1 (ip1 := 9) (ls1 := [(0, .inr (.inr 150)), (1, .inl (x1)), (2, .inl (x2)), (3, .inl (x3)), (4, .inl (x4))]) (st1 := [.inl (x4)]) (h1 := (px_G1, s)) rfl ?_
    refine px_D_ifc rfl (fun hc => ?_) (fun hc => ?_)
    · have hc1 : (x4) < (0) := of_decide_eq_true hc
      rw [if_pos hc1] at h
      cases h
      exact px_D_vret rfl ⟨rfl, rfl⟩
    · have hc1 : ¬ ((x4) < (0)) := of_decide_eq_false hc
      rw [if_neg hc1] at h
      refine px_D_st 5 (ip1 := 15) (ls1 := [(0, .inr (.inr 150)), (1, .inl (x1)), (2, .inl (x2)), (3, .inl (x3)), (4, .inl (x4))]) (st1 := [.inl (x3), .inl (x4), .inl (x4), .inr (.inr 177)]) (h1 := (px_G1, s)) rfl ?_
      refine px_D_icmp rfl (fun hc => ?_) (fun hc => ?_)
      · have hc2 : ¬ ((x4) = (x3)) := of_decide_eq_true hc
        rw [if_neg hc2] at h
        refine px_D_st 1 (ip1 := 19) (ls1 := [(0, .inr (.inr 150)), (1, .inl (x1)), (2, .inl (x2)), (3, .inl (x3)), (4, .inl (x4))]) (st1 := [.inl (0), .inl (x4), .inr (.inr 177)]) (h1 := (px_G1, s)) rfl ?_
        by_cases hc3 : 0 ≤ (x4) ∧ (x4) < 256
        case neg => rw [if_neg hc3] at h; cases h
        rw [if_pos hc3] at h
        refine px_D_iast (k := 172) (n := 256) rfl rfl hc3 ?_
        refine px_D_st 2 (ip1 := 22) (ls1 := [(5, .inl (0)), (0, .inr (.inr 150)), (1, .inl (x1)), (2, .inl (x2)), (3, .inl (x3)), (4, .inl (x4))]) (st1 := []) (h1 := (px_G1, px_up s 177 x4.toNat 0)) rfl ?_
        refine px_D_ls [(0, .inr (.inr 150)), (1, .inl (x1)), (2, .inl (x2)), (3, .inl (x3)), (4, .inl (x4)), (5, .inl (0))] rfl rfl (List.forall_mem_cons.mpr ⟨rfl, List.forall_mem_cons.mpr ⟨rfl, List.forall_mem_cons.mpr ⟨rfl, List.forall_mem_cons.mpr ⟨rfl, List.forall_mem_cons.mpr ⟨rfl, List.forall_mem_cons.mpr ⟨rfl, fun _ h => absurd h List.not_mem_nil⟩⟩⟩⟩⟩⟩) ?_
        refine cl_M_findsOrders_22 ?_ px_big _ _ _ _ _ _ _ h
        · intro s x1 x2 x3 x4 out h
          refine px_D_st 2 (ip1 := 8) (ls1 := [(4, .inl (px_wr (x4 + (-1)))), (0, .inr (.inr 150)), (1, .inl (x1)), (2, .inl (x2)), (3, .inl (x3))]) (st1 := []) (h1 := (px_G1, s)) rfl ?_
          refine px_D_ls [(0, .inr (.inr 150)), (1, .inl (x1)), (2, .inl (x2)), (3, .inl (x3)), (4, .inl (px_wr (x4 + (-1))))] rfl rfl (List.forall_mem_cons.mpr ⟨rfl, List.forall_mem_cons.mpr ⟨rfl, List.forall_mem_cons.mpr ⟨rfl, List.forall_mem_cons.mpr ⟨rfl, List.forall_mem_cons.mpr ⟨rfl, fun _ h => absurd h List.not_mem_nil⟩⟩⟩⟩⟩) ?_
          exact ih _ _ _ _ _ _ h
      · have hc2 : (x4) = (x3) := Decidable.of_not_not (of_decide_eq_false hc)
        rw [if_pos hc2] at h
        refine px_D_st 2 (ip1 := 19) (ls1 := [(0, .inr (.inr 150)), (1, .inl (x1)), (2, .inl (x2)), (3, .inl (x3)), (4, .inl (x4))]) (st1 := [.inl (1), .inl (x4), .inr (.inr 177)]) (h1 := (px_G1, s)) rfl ?_
        by_cases hc10 : 0 ≤ (x4) ∧ (x4) < 256
        case neg => rw [if_neg hc10] at h; cases h
        rw [if_pos hc10] at h
        refine px_D_iast (k := 172) (n := 256) rfl rfl hc10 ?_
        refine px_D_st 2 (ip1 := 22) (ls1 := [(5, .inl (0)), (0, .inr (.inr 150)), (1, .inl (x1)), (2, .inl (x2)), (3, .inl (x3)), (4, .inl (x4))]) (st1 := []) (h1 := (px_G1, px_up s 177 x4.toNat 1)) rfl ?_
        refine px_D_ls [(0, .inr (.inr 150)), (1, .inl (x1)), (2, .inl (x2)), (3, .inl (x3)), (4, .inl (x4)), (5, .inl (0))] rfl rfl (List.forall_mem_cons.mpr ⟨rfl, List.forall_mem_cons.mpr ⟨rfl, List.forall_mem_cons.mpr ⟨rfl, List.forall_mem_cons.mpr ⟨rfl, List.forall_mem_cons.mpr ⟨rfl, List.forall_mem_cons.mpr ⟨rfl, fun _ h => absurd h List.not_mem_nil⟩⟩⟩⟩⟩⟩) ?_
        refine cl_M_findsOrders_22 ?_ px_big _ _ _ _ _ _ _ h
        · intro s x1 x2 x3 x4 out h
          refine px_D_st 2 (ip1 := 8) (ls1 := [(4, .inl (px_wr (x4 + (-1)))), (0, .inr (.inr 150)), (1, .inl (x1)), (2, .inl (x2)), (3, .inl (x3))]) (st1 := []) (h1 := (px_G1, s)) rfl ?_
          refine px_D_ls [(0, .inr (.inr 150)), (1, .inl (x1)), (2, .inl (x2)), (3, .inl (x3)), (4, .inl (px_wr (x4 + (-1))))] rfl rfl (List.forall_mem_cons.mpr ⟨rfl, List.forall_mem_cons.mpr ⟨rfl, List.forall_mem_cons.mpr ⟨rfl, List.forall_mem_cons.mpr ⟨rfl, List.forall_mem_cons.mpr ⟨rfl, fun _ h => absurd h List.not_mem_nil⟩⟩⟩⟩⟩) ?_
          exact ih _ _ _ _ _ _ h
def f_M_findsOrders (s : px_Z) (x1 : Int) (x2 : Int) : Option (px_Z) := l_M_findsOrders_8  px_big s x1 x2 (px_wr ((px_shl (1) (x1)) - 1)) (px_wr ((px_shl (1) (x1)) - 1))
set_option maxHeartbeats 4000000 in
set_option maxRecDepth 100000 in
theorem c_M_findsOrders {sc : List Int} {d : Nat} {s : px_Z} {x1 : Int} {x2 : Int} {out : px_Z} (h : f_M_findsOrders s x1 x2 = some out) : px_D sc (d + 3) 257 0 [(0, .inr (.inr 150)), (1, .inl (x1)), (2, .inl (x2))] [] (px_G1, s) (px_Qv out) := by
  unfold f_M_findsOrders at h
  refine px_D_st 8 (ip1 := 8) (ls1 := [(4, .inl (px_wr ((px_shl (1) (x1)) - 1))), (3, .inl (px_wr ((px_shl (1) (x1)) - 1))), (0, .inr (.inr 150)), (1, .inl (x1)), (2, .inl (x2))]) (st1 := []) (h1 := (px_G1, s)) rfl ?_
  refine px_D_ls [(0, .inr (.inr 150)), (1, .inl (x1)), (2, .inl (x2)), (3, .inl (px_wr ((px_shl (1) (x1)) - 1))), (4, .inl (px_wr ((px_shl (1) (x1)) - 1)))] rfl rfl (List.forall_mem_cons.mpr ⟨rfl, List.forall_mem_cons.mpr ⟨rfl, List.forall_mem_cons.mpr ⟨rfl, List.forall_mem_cons.mpr ⟨rfl, List.forall_mem_cons.mpr ⟨rfl, fun _ h => absurd h List.not_mem_nil⟩⟩⟩⟩⟩) ?_
  refine cl_M_findsOrders_8  px_big _ _ _ _ _ _ h

def l_M_orderedAt_11 (s : px_Z) (k31 : Int → Int → Int → Int → Int → Option (Int)) : Nat → Int → Int → Int → Int → Int → Option (Int)
  | 0, _, _, _, _, _ => none
  | n + 1, x2, x3, x4, x5, x6 => (f_M_canFollow s x5 x4 x3).bind (fun q2 => if (q2) = (0) then l_M_orderedAt_11 s k31 n x2 x3 x4 (px_wr (x5 + 1)) x6 else (if 0 ≤ (px_or (x4) ((px_shl (1) (x5)))) ∧ (px_or (x4) ((px_shl (1) (x5)))) < 256 then if (s 177 (px_or (x4) ((px_shl (1) (x5)))).toNat) = (0) then l_M_orderedAt_11 s k31 n x2 x3 x4 (px_wr (x5 + 1)) x6 else k31 x2 x3 x4 x5 x6 else none))
set_option maxHeartbeats 4000000 in
set_option maxRecDepth 100000 in
theorem cl_M_orderedAt_11 {sc : List Int} {d : Nat} {s : px_Z} {k31 : Int → Int → Int → Int → Int → Option (Int)}  (hk31 : ∀ (y2 : Int) (y3 : Int) (y4 : Int) (y5 : Int) (y6 : Int) (out : Int), k31 y2 y3 y4 y5 y6 = some out → px_D sc (d + 3) 258 31 [(0, .inr (.inr 150)), (2, .inl (y2)), (3, .inl (y3)), (4, .inl (y4)), (5, .inl (y5)), (6, .inl (y6))] [] (px_G1, s) (px_Qp s out)) : ∀ (n : Nat) (x2 : Int) (x3 : Int) (x4 : Int) (x5 : Int) (x6 : Int) (out : Int), l_M_orderedAt_11 s k31 n x2 x3 x4 x5 x6 = some out → px_D sc (d + 3) 258 11 [(0, .inr (.inr 150)), (2, .inl (x2)), (3, .inl (x3)), (4, .inl (x4)), (5, .inl (x5)), (6, .inl (x6))] [] (px_G1, s) (px_Qp s out) := by
  intro n
  induction n with
  | zero => intro x2 x3 x4 x5 x6 out h; cases h
  | succ n ih =>
    intro x2 x3 x4 x5 x6 out h
    rw [l_M_orderedAt_11] at h
    refine px_D_st 4 (ip1 := 15) (ls1 := [(0, .inr (.inr 150)), (2, .inl (x2)), (3, .inl (x3)), (4, .inl (x4)), (5, .inl (x5)), (6, .inl (x6))]) (st1 := [.inl (x3), .inl (x4), .inl (x5), .inr (.inr 150)]) (h1 := (px_G1, s)) rfl ?_
    refine px_D_call (as := [.inr (.inr 150), .inl (x5), .inl (x4), .inl (x3)]) (rest := []) rfl rfl rfl rfl ?_
    obtain ⟨q2, hq2, h⟩ := Option.bind_eq_some_iff.mp h
    refine px_D_mono (c_M_canFollow (d := d + 0) hq2) ?_
    rintro _ _ ⟨rfl, rfl⟩
    show px_D sc (d + 3) 258 16 [(0, .inr (.inr 150)), (2, .inl (x2)), (3, .inl (x3)), (4, .inl (x4)), (5, .inl (x5)), (6, .inl (x6))] [.inl (q2)] (px_G1, s) _
    refine px_D_ifc rfl (fun hc => ?_) (fun hc => ?_)
    · have hc3 : (q2) = (0) := of_decide_eq_true hc
      rw [if_pos hc3] at h
      refine px_D_st 5 (ip1 := 11) (ls1 := [(5, .inl (px_wr (x5 + 1))), (0, .inr (.inr 150)), (2, .inl (x2)), (3, .inl (x3)), (4, .inl (x4)), (6, .inl (x6))]) (st1 := []) (h1 := (px_G1, s)) rfl ?_
      refine px_D_ls [(0, .inr (.inr 150)), (2, .inl (x2)), (3, .inl (x3)), (4, .inl (x4)), (5, .inl (px_wr (x5 + 1))), (6, .inl (x6))] rfl rfl (List.forall_mem_cons.mpr ⟨rfl, List.forall_mem_cons.mpr ⟨rfl, List.forall_mem_cons.mpr ⟨rfl, List.forall_mem_cons.mpr ⟨rfl, List.forall_mem_cons.mpr ⟨rfl, List.forall_mem_cons.mpr ⟨rfl, fun _ h => absurd h List.not_mem_nil⟩⟩⟩⟩⟩⟩) ?_
      exact ih _ _ _ _ _ _ h
    · have hc3 : ¬ ((q2) = (0)) := of_decide_eq_false hc
      rw [if_neg hc3] at h
      refine px_D_st 7 (ip1 := 24) (ls1 := [(0, .inr (.inr 150)), (2, .inl (x2)), (3, .inl (x3)), (4, .inl (x4)), (5, .inl (x5)), (6, .inl (x6))]) (st1 := [.inl (px_or (x4) ((px_shl (1) (x5)))), .inr (.inr 177)]) (h1 := (px_G1, s)) rfl ?_
      by_cases hc4 : 0 ≤ (px_or (x4) ((px_shl (1) (x5)))) ∧ (px_or (x4) ((px_shl (1) (x5)))) < 256
      case neg => rw [if_neg hc4] at h; cases h
      rw [if_pos hc4] at h
      refine px_D_iald (k := 172) (n := 256) rfl rfl hc4 ?_
      refine px_D_ifc rfl (fun hc => ?_) (fun hc => ?_)
      · have hc5 : ¬ ((s 177 (px_or (x4) ((px_shl (1) (x5)))).toNat) = (0)) := of_decide_eq_true hc
        rw [if_neg hc5] at h
        refine px_D_ls [(0, .inr (.inr 150)), (2, .inl (x2)), (3, .inl (x3)), (4, .inl (x4)), (5, .inl (x5)), (6, .inl (x6))] rfl rfl (List.forall_mem_cons.mpr ⟨rfl, List.forall_mem_cons.mpr ⟨rfl, List.forall_mem_cons.mpr ⟨rfl, List.forall_mem_cons.mpr ⟨rfl, List.forall_mem_cons.mpr ⟨rfl, List.forall_mem_cons.mpr ⟨rfl, fun _ h => absurd h List.not_mem_nil⟩⟩⟩⟩⟩⟩) ?_
        exact hk31 _ _ _ _ _ _ h
      · have hc5 : (s 177 (px_or (x4) ((px_shl (1) (x5)))).toNat) = (0) := Decidable.of_not_not (of_decide_eq_false hc)
        rw [if_pos hc5] at h
        refine px_D_st 5 (ip1 := 11) (ls1 := [(5, .inl (px_wr (x5 + 1))), (0, .inr (.inr 150)), (2, .inl (x2)), (3, .inl (x3)), (4, .inl (x4)), (6, .inl (x6))]) (st1 := []) (h1 := (px_G1, s)) rfl ?_
        refine px_D_ls [(0, .inr (.inr 150)), (2, .inl (x2)), (3, .inl (x3)), (4, .inl (x4)), (5, .inl (px_wr (x5 + 1))), (6, .inl (x6))] rfl rfl (List.forall_mem_cons.mpr ⟨rfl, List.forall_mem_cons.mpr ⟨rfl, List.forall_mem_cons.mpr ⟨rfl, List.forall_mem_cons.mpr ⟨rfl, List.forall_mem_cons.mpr ⟨rfl, List.forall_mem_cons.mpr ⟨rfl, fun _ h => absurd h List.not_mem_nil⟩⟩⟩⟩⟩⟩) ?_
        exact ih _ _ _ _ _ _ h
def l_M_orderedAt_6 (s : px_Z)  : Nat → Int → Int → Int → Int → Int → Option (Int)
  | 0, _, _, _, _, _ => none
  | n + 1, x2, x3, x4, x5, x6 => if (x2) < (x6) then some x5 else l_M_orderedAt_11 s (fun x2 x3 x4 x5 x6 => l_M_orderedAt_6 s  n x2 x3 (px_or (x4) ((px_shl (1) (x5)))) x5 (px_wr (x6 + 1))) px_big x2 x3 x4 0 x6
set_option maxHeartbeats 4000000 in
set_option maxRecDepth 100000 in
theorem cl_M_orderedAt_6 {sc : List Int} {d : Nat} {s : px_Z}  : ∀ (n : Nat) (x2 : Int) (x3 : Int) (x4 : Int) (x5 : Int) (x6 : Int) (out : Int), l_M_orderedAt_6 s  n x2 x3 x4 x5 x6 = some out → px_D sc (d + 3) 258 6 [(0, .inr (.inr 150)), (2, .inl (x2)), (3, .inl (x3)), (4, .inl (x4)), (5, .inl (x5)), (6, .inl (x6))] [] (px_G1, s) (px_Qp s out) := by
  intro n
  induction n with
  | zero => intro x2 x3 x4 x5 x6 out h; cases h
  | succ n ih =>
    intro x2 x3 x4 x5 x6 out h
    rw [l_M_orderedAt_6] at h
    refine px_D_st 2 (ip1 := 8) (ls1 := [(0, .inr (.inr 150)), (2, .inl (x2)), (3, .inl (x3)), (4, .inl (x4)), (5, .inl (x5)), (6, .inl (x6))]) (st1 := [.inl (x2), .inl (x6)]) (h1 := (px_G1, s)) rfl ?_
    refine px_D_icmp rfl (fun hc => ?_) (fun hc => ?_)
    · have hc1 : (x2) < (x6) := of_decide_eq_true hc
      rw [if_pos hc1] at h
      refine px_D_st 1 (ip1 := 40) (ls1 := [(0, .inr (.inr 150)), (2, .inl (x2)), (3, .inl (x3)), (4, .inl (x4)), (5, .inl (x5)), (6, .inl (x6))]) (st1 := [.inl (x5)]) (h1 := (px_G1, s)) rfl ?_
      cases h
      exact px_D_iret rfl rfl ⟨rfl, rfl⟩
    · have hc1 : ¬ ((x2) < (x6)) := of_decide_eq_false hc
      rw [if_neg hc1] at h
      refine px_D_st 2 (ip1 := 11) (ls1 := [(5, .inl (0)), (0, .inr (.inr 150)), (2, .inl (x2)), (3, .inl (x3)), (4, .inl (x4)), (6, .inl (x6))]) (st1 := []) (h1 := (px_G1, s)) rfl ?_
      refine px_D_ls [(0, .inr (.inr 150)), (2, .inl (x2)), (3, .inl (x3)), (4, .inl (x4)), (5, .inl (0)), (6, .inl (x6))] rfl rfl (List.forall_mem_cons.mpr ⟨rfl, List.forall_mem_cons.mpr ⟨rfl, List.forall_mem_cons.mpr ⟨rfl, List.forall_mem_cons.mpr ⟨rfl, List.forall_mem_cons.mpr ⟨rfl, List.forall_mem_cons.mpr ⟨rfl, fun _ h => absurd h List.not_mem_nil⟩⟩⟩⟩⟩⟩) ?_
      refine cl_M_orderedAt_11 ?_ px_big _ _ _ _ _ _ h
      · intro x2 x3 x4 x5 x6 out h
        refine px_D_st 8 (ip1 := 6) (ls1 := [(6, .inl (px_wr (x6 + 1))), (4, .inl (px_or (x4) ((px_shl (1) (x5))))), (0, .inr (.inr 150)), (2, .inl (x2)), (3, .inl (x3)), (5, .inl (x5))]) (st1 := []) (h1 := (px_G1, s)) rfl ?_
        refine px_D_ls [(0, .inr (.inr 150)), (2, .inl (x2)), (3, .inl (x3)), (4, .inl (px_or (x4) ((px_shl (1) (x5))))), (5, .inl (x5)), (6, .inl (px_wr (x6 + 1)))] rfl rfl (List.forall_mem_cons.mpr ⟨rfl, List.forall_mem_cons.mpr ⟨rfl, List.forall_mem_cons.mpr ⟨rfl, List.forall_mem_cons.mpr ⟨rfl, List.forall_mem_cons.mpr ⟨rfl, List.forall_mem_cons.mpr ⟨rfl, fun _ h => absurd h List.not_mem_nil⟩⟩⟩⟩⟩⟩) ?_
        exact ih _ _ _ _ _ _ h
def f_M_orderedAt (s : px_Z) (x1 : Int) (x2 : Int) (x3 : Int) : Option (Int) := l_M_orderedAt_6 s  px_big x2 x3 x1 (-1) 0
set_option maxHeartbeats 4000000 in
set_option maxRecDepth 100000 in
theorem c_M_orderedAt {sc : List Int} {d : Nat} {s : px_Z} {x1 : Int} {x2 : Int} {x3 : Int} {out : Int} (h : f_M_orderedAt s x1 x2 x3 = some out) : px_D sc (d + 3) 258 0 [(0, .inr (.inr 150)), (1, .inl (x1)), (2, .inl (x2)), (3, .inl (x3))] [] (px_G1, s) (px_Qp s out) := by
  unfold f_M_orderedAt at h
  refine px_D_st 6 (ip1 := 6) (ls1 := [(6, .inl (0)), (5, .inl ((-1))), (4, .inl (x1)), (0, .inr (.inr 150)), (1, .inl (x1)), (2, .inl (x2)), (3, .inl (x3))]) (st1 := []) (h1 := (px_G1, s)) rfl ?_
  refine px_D_ls [(0, .inr (.inr 150)), (2, .inl (x2)), (3, .inl (x3)), (4, .inl (x1)), (5, .inl ((-1))), (6, .inl (0))] rfl rfl (List.forall_mem_cons.mpr ⟨rfl, List.forall_mem_cons.mpr ⟨rfl, List.forall_mem_cons.mpr ⟨rfl, List.forall_mem_cons.mpr ⟨rfl, List.forall_mem_cons.mpr ⟨rfl, List.forall_mem_cons.mpr ⟨rfl, fun _ h => absurd h List.not_mem_nil⟩⟩⟩⟩⟩⟩) ?_
  refine cl_M_orderedAt_6  px_big _ _ _ _ _ _ h

def j_M_orders_j23 (s : px_Z) (x1 : Int) (x2 : Int) : Option (Int × px_Z) := (f_M_findsOrders s (s 150 6) 0).bind (fun q3 => if (x1) = (0) then (if 0 ≤ (x2) ∧ (x2) < 256 then some (q3 177 x2.toNat, q3) else none) else (if 0 ≤ (x2) ∧ (x2) < 256 then if (q3 177 x2.toNat) = (0) then some (((-1), q3)) else (f_M_orderedAt q3 x2 (px_wr (x1 - 10)) 0).bind (fun q7 => some (q7, q3)) else none))
set_option maxHeartbeats 4000000 in
set_option maxRecDepth 100000 in
theorem cj_M_orders_j23 {sc : List Int} {d : Nat} {s : px_Z} {x1 : Int} {x2 : Int} {out : Int × px_Z} (h : j_M_orders_j23 s x1 x2 = some out) : px_D sc (d + 4) 259 23 [(0, .inr (.inr 150)), (1, .inl (x1)), (2, .inl (x2))] [] (px_G1, s) (px_Qi out) := by
  unfold j_M_orders_j23 at h
  refine px_D_st 4 (ip1 := 27) (ls1 := [(0, .inr (.inr 150)), (1, .inl (x1)), (2, .inl (x2))]) (st1 := [.inl (0), .inl (s 150 6), .inr (.inr 150)]) (h1 := (px_G1, s)) rfl ?_
  refine px_D_call (as := [.inr (.inr 150), .inl (s 150 6), .inl (0)]) (rest := []) rfl rfl rfl rfl ?_
  obtain ⟨q3, hq3, h⟩ := Option.bind_eq_some_iff.mp h
  refine px_D_mono (c_M_findsOrders (d := d + 0) hq3) ?_
  rintro _ _ ⟨rfl, rfl⟩
  show px_D sc (d + 4) 259 28 [(0, .inr (.inr 150)), (1, .inl (x1)), (2, .inl (x2))] [] (px_G1, q3) _
  refine px_D_st 1 (ip1 := 29) (ls1 := [(0, .inr (.inr 150)), (1, .inl (x1)), (2, .inl (x2))]) (st1 := [.inl (x1)]) (h1 := (px_G1, q3)) rfl ?_
  refine px_D_ifc rfl (fun hc => ?_) (fun hc => ?_)
  · have hc4 : ¬ ((x1) = (0)) := of_decide_eq_true hc
    rw [if_neg hc4] at h
    refine px_D_st 3 (ip1 := 38) (ls1 := [(0, .inr (.inr 150)), (1, .inl (x1)), (2, .inl (x2))]) (st1 := [.inl (x2), .inr (.inr 177)]) (h1 := (px_G1, q3)) rfl ?_
    by_cases hc5 : 0 ≤ (x2) ∧ (x2) < 256
    case neg => rw [if_neg hc5] at h; cases h
    rw [if_pos hc5] at h
    refine px_D_iald (k := 172) (n := 256) rfl rfl hc5 ?_
    refine px_D_ifc rfl (fun hc => ?_) (fun hc => ?_)
    · have hc6 : ¬ ((q3 177 x2.toNat) = (0)) := of_decide_eq_true hc
      rw [if_neg hc6] at h
      refine px_D_st 6 (ip1 := 48) (ls1 := [(0, .inr (.inr 150)), (1, .inl (x1)), (2, .inl (x2))]) (st1 := [.inl (0), .inl (px_wr (x1 - 10)), .inl (x2), .inr (.inr 150)]) (h1 := (px_G1, q3)) rfl ?_
      refine px_D_call (as := [.inr (.inr 150), .inl (x2), .inl (px_wr (x1 - 10)), .inl (0)]) (rest := []) rfl rfl rfl rfl ?_
      obtain ⟨q7, hq7, h⟩ := Option.bind_eq_some_iff.mp h
      refine px_D_mono (c_M_orderedAt (d := d + 0) hq7) ?_
      rintro _ _ ⟨rfl, rfl⟩
      show px_D sc (d + 4) 259 49 [(0, .inr (.inr 150)), (1, .inl (x1)), (2, .inl (x2))] [.inl (q7)] (px_G1, q3) _
      cases h
      exact px_D_iret rfl rfl ⟨rfl, rfl⟩
    · have hc6 : (q3 177 x2.toNat) = (0) := Decidable.of_not_not (of_decide_eq_false hc)
      rw [if_pos hc6] at h
      refine px_D_st 2 (ip1 := 49) (ls1 := [(0, .inr (.inr 150)), (1, .inl (x1)), (2, .inl (x2))]) (st1 := [.inl ((-1))]) (h1 := (px_G1, q3)) rfl ?_
      cases h
      exact px_D_iret rfl rfl ⟨rfl, rfl⟩
  · have hc4 : (x1) = (0) := Decidable.of_not_not (of_decide_eq_false hc)
    rw [if_pos hc4] at h
    refine px_D_st 3 (ip1 := 33) (ls1 := [(0, .inr (.inr 150)), (1, .inl (x1)), (2, .inl (x2))]) (st1 := [.inl (x2), .inr (.inr 177)]) (h1 := (px_G1, q3)) rfl ?_
    by_cases hc8 : 0 ≤ (x2) ∧ (x2) < 256
    case neg => rw [if_neg hc8] at h; cases h
    rw [if_pos hc8] at h
    refine px_D_iald (k := 172) (n := 256) rfl rfl hc8 ?_
    cases h
    exact px_D_iret rfl rfl ⟨rfl, rfl⟩
def f_M_orders (s : px_Z) (x1 : Int) : Option (Int × px_Z) := (f_M_homeSet (px_up s 150 0 0) ).bind (fun q1 => if (x1) = (0) then j_M_orders_j23 (px_up s 150 0 0) x1 q1 else (f_M_onesOf (px_up s 150 0 0) q1).bind (fun q9 => if (f_M_isIn (px_up s 150 0 0) x1 10 (px_wr ((px_wr (9 + ((px_up s 150 0 0) 150 6))) - q9))) = (0) then some (((-1), px_up s 150 0 0)) else j_M_orders_j23 (px_up s 150 0 0) x1 q1))
set_option maxHeartbeats 4000000 in
set_option maxRecDepth 100000 in
theorem c_M_orders {sc : List Int} {d : Nat} {s : px_Z} {x1 : Int} {out : Int × px_Z} (h : f_M_orders s x1 = some out) : px_D sc (d + 4) 259 0 [(0, .inr (.inr 150)), (1, .inl (x1))] [] (px_G1, s) (px_Qi out) := by
  unfold f_M_orders at h
  refine px_D_st 4 (ip1 := 4) (ls1 := [(0, .inr (.inr 150)), (1, .inl (x1))]) (st1 := [.inr (.inr 150)]) (h1 := (px_G1, px_up s 150 0 0)) rfl ?_
  refine px_D_call (as := [.inr (.inr 150)]) (rest := []) rfl rfl rfl rfl ?_
  obtain ⟨q1, hq1, h⟩ := Option.bind_eq_some_iff.mp h
  refine px_D_mono (c_M_homeSet (d := d + 2) hq1) ?_
  rintro _ _ ⟨rfl, rfl⟩
  show px_D sc (d + 4) 259 5 [(0, .inr (.inr 150)), (1, .inl (x1))] [.inl (q1)] (px_G1, px_up s 150 0 0) _
  refine px_D_st 2 (ip1 := 7) (ls1 := [(2, .inl (q1)), (0, .inr (.inr 150)), (1, .inl (x1))]) (st1 := [.inl (x1)]) (h1 := (px_G1, px_up s 150 0 0)) rfl ?_
  refine px_D_ifc rfl (fun hc => ?_) (fun hc => ?_)
  · have hc2 : (x1) = (0) := of_decide_eq_true hc
    rw [if_pos hc2] at h
    refine px_D_ls [(0, .inr (.inr 150)), (1, .inl (x1)), (2, .inl (q1))] rfl rfl (List.forall_mem_cons.mpr ⟨rfl, List.forall_mem_cons.mpr ⟨rfl, List.forall_mem_cons.mpr ⟨rfl, fun _ h => absurd h List.not_mem_nil⟩⟩⟩) ?_
    exact cj_M_orders_j23 h
  · have hc2 : ¬ ((x1) = (0)) := of_decide_eq_false hc
    rw [if_neg hc2] at h
    refine px_D_st 9 (ip1 := 17) (ls1 := [(2, .inl (q1)), (0, .inr (.inr 150)), (1, .inl (x1))]) (st1 := [.inl (q1), .inr (.inr 150), .inl (px_wr (9 + ((px_up s 150 0 0) 150 6))), .inl (10), .inl (x1), .inr (.inr 150)]) (h1 := (px_G1, px_up s 150 0 0)) rfl ?_
    refine px_D_call (as := [.inr (.inr 150), .inl (q1)]) (rest := [.inl (px_wr (9 + ((px_up s 150 0 0) 150 6))), .inl (10), .inl (x1), .inr (.inr 150)]) rfl rfl rfl rfl ?_
    obtain ⟨q9, hq9, h⟩ := Option.bind_eq_some_iff.mp h
    refine px_D_mono (c_M_onesOf (d := d + 3) hq9) ?_
    rintro _ _ ⟨rfl, rfl⟩
    show px_D sc (d + 4) 259 18 [(2, .inl (q1)), (0, .inr (.inr 150)), (1, .inl (x1))] [.inl (q9), .inl (px_wr (9 + ((px_up s 150 0 0) 150 6))), .inl (10), .inl (x1), .inr (.inr 150)] (px_G1, px_up s 150 0 0) _
    refine px_D_st 1 (ip1 := 19) (ls1 := [(2, .inl (q1)), (0, .inr (.inr 150)), (1, .inl (x1))]) (st1 := [.inl (px_wr ((px_wr (9 + ((px_up s 150 0 0) 150 6))) - q9)), .inl (10), .inl (x1), .inr (.inr 150)]) (h1 := (px_G1, px_up s 150 0 0)) rfl ?_
    refine px_D_call (as := [.inr (.inr 150), .inl (x1), .inl (10), .inl (px_wr ((px_wr (9 + ((px_up s 150 0 0) 150 6))) - q9))]) (rest := []) rfl rfl rfl rfl ?_
    refine px_D_mono (c_M_isIn (d := d + 3) rfl) ?_
    rintro _ _ ⟨rfl, rfl⟩
    show px_D sc (d + 4) 259 20 [(2, .inl (q1)), (0, .inr (.inr 150)), (1, .inl (x1))] [.inl (f_M_isIn (px_up s 150 0 0) x1 10 (px_wr ((px_wr (9 + ((px_up s 150 0 0) 150 6))) - q9)))] (px_G1, px_up s 150 0 0) _
    refine px_D_ifc rfl (fun hc => ?_) (fun hc => ?_)
    · have hc10 : ¬ ((f_M_isIn (px_up s 150 0 0) x1 10 (px_wr ((px_wr (9 + ((px_up s 150 0 0) 150 6))) - q9))) = (0)) := of_decide_eq_true hc
      rw [if_neg hc10] at h
      refine px_D_ls [(0, .inr (.inr 150)), (1, .inl (x1)), (2, .inl (q1))] rfl rfl (List.forall_mem_cons.mpr ⟨rfl, List.forall_mem_cons.mpr ⟨rfl, List.forall_mem_cons.mpr ⟨rfl, fun _ h => absurd h List.not_mem_nil⟩⟩⟩) ?_
      exact cj_M_orders_j23 h
    · have hc10 : (f_M_isIn (px_up s 150 0 0) x1 10 (px_wr ((px_wr (9 + ((px_up s 150 0 0) 150 6))) - q9))) = (0) := Decidable.of_not_not (of_decide_eq_false hc)
      rw [if_pos hc10] at h
      refine px_D_st 1 (ip1 := 22) (ls1 := [(2, .inl (q1)), (0, .inr (.inr 150)), (1, .inl (x1))]) (st1 := [.inl ((-1))]) (h1 := (px_G1, px_up s 150 0 0)) rfl ?_
      cases h
      exact px_D_iret rfl rfl ⟨rfl, rfl⟩

def f_M_letter (s : px_Z) (x1 : Int) : Option (Int × px_Z) := if (x1) < (0) then some (((-1), px_up s 150 0 0)) else (if (px_shl (1) (((px_up s 150 0 0) 150 6))) ≤ (x1) then some (((-1), px_up s 150 0 0)) else (if ((px_up s 150 0 0) 150 51) = (8) then some (((-1), px_up s 150 0 0)) else (if 0 ≤ ((px_up s 150 0 0) 150 51) ∧ ((px_up s 150 0 0) 150 51) < 8 then some ((px_wr (((px_up (px_up (px_up s 150 0 0) 178 ((px_up s 150 0 0) 150 51).toNat x1) 150 51 (px_wr (((px_up (px_up s 150 0 0) 178 ((px_up s 150 0 0) 150 51).toNat x1) 150 51) + 1))) 150 51) - 1), px_up (px_up (px_up s 150 0 0) 178 ((px_up s 150 0 0) 150 51).toNat x1) 150 51 (px_wr (((px_up (px_up s 150 0 0) 178 ((px_up s 150 0 0) 150 51).toNat x1) 150 51) + 1)))) else none)))
set_option maxHeartbeats 4000000 in
set_option maxRecDepth 100000 in
theorem c_M_letter {sc : List Int} {d : Nat} {s : px_Z} {x1 : Int} {out : Int × px_Z} (h : f_M_letter s x1 = some out) : px_D sc (d + 0) 260 0 [(0, .inr (.inr 150)), (1, .inl (x1))] [] (px_G1, s) (px_Qi out) := by
  unfold f_M_letter at h
  refine px_D_st 4 (ip1 := 4) (ls1 := [(0, .inr (.inr 150)), (1, .inl (x1))]) (st1 := [.inl (x1)]) (h1 := (px_G1, px_up s 150 0 0)) rfl ?_
  refine px_D_ifc rfl (fun hc => ?_) (fun hc => ?_)
  · have hc1 : (x1) < (0) := of_decide_eq_true hc
    rw [if_pos hc1] at h
    refine px_D_st 1 (ip1 := 16) (ls1 := [(0, .inr (.inr 150)), (1, .inl (x1))]) (st1 := [.inl ((-1))]) (h1 := (px_G1, px_up s 150 0 0)) rfl ?_
    cases h
    exact px_D_iret rfl rfl ⟨rfl, rfl⟩
  · have hc1 : ¬ ((x1) < (0)) := of_decide_eq_false hc
    rw [if_neg hc1] at h
    refine px_D_st 5 (ip1 := 10) (ls1 := [(0, .inr (.inr 150)), (1, .inl (x1))]) (st1 := [.inl (px_shl (1) (((px_up s 150 0 0) 150 6))), .inl (x1)]) (h1 := (px_G1, px_up s 150 0 0)) rfl ?_
    refine px_D_icmp rfl (fun hc => ?_) (fun hc => ?_)
    · have hc2 : (px_shl (1) (((px_up s 150 0 0) 150 6))) ≤ (x1) := of_decide_eq_true hc
      rw [if_pos hc2] at h
      refine px_D_st 1 (ip1 := 16) (ls1 := [(0, .inr (.inr 150)), (1, .inl (x1))]) (st1 := [.inl ((-1))]) (h1 := (px_G1, px_up s 150 0 0)) rfl ?_
      cases h
      exact px_D_iret rfl rfl ⟨rfl, rfl⟩
    · have hc2 : ¬ ((px_shl (1) (((px_up s 150 0 0) 150 6))) ≤ (x1)) := of_decide_eq_false hc
      rw [if_neg hc2] at h
      refine px_D_st 3 (ip1 := 14) (ls1 := [(0, .inr (.inr 150)), (1, .inl (x1))]) (st1 := [.inl (8), .inl ((px_up s 150 0 0) 150 51)]) (h1 := (px_G1, px_up s 150 0 0)) rfl ?_
      refine px_D_icmp rfl (fun hc => ?_) (fun hc => ?_)
      · have hc3 : ¬ (((px_up s 150 0 0) 150 51) = (8)) := of_decide_eq_true hc
        rw [if_neg hc3] at h
        refine px_D_st 5 (ip1 := 22) (ls1 := [(0, .inr (.inr 150)), (1, .inl (x1))]) (st1 := [.inl (x1), .inl ((px_up s 150 0 0) 150 51), .inr (.inr 178)]) (h1 := (px_G1, px_up s 150 0 0)) rfl ?_
        by_cases hc4 : 0 ≤ ((px_up s 150 0 0) 150 51) ∧ ((px_up s 150 0 0) 150 51) < 8
        case neg => rw [if_neg hc4] at h; cases h
        rw [if_pos hc4] at h
        refine px_D_iast (k := 173) (n := 8) rfl rfl hc4 ?_
        refine px_D_st 10 (ip1 := 33) (ls1 := [(0, .inr (.inr 150)), (1, .inl (x1))]) (st1 := [.inl (px_wr (((px_up (px_up (px_up s 150 0 0) 178 ((px_up s 150 0 0) 150 51).toNat x1) 150 51 (px_wr (((px_up (px_up s 150 0 0) 178 ((px_up s 150 0 0) 150 51).toNat x1) 150 51) + 1))) 150 51) - 1))]) (h1 := (px_G1, px_up (px_up (px_up s 150 0 0) 178 ((px_up s 150 0 0) 150 51).toNat x1) 150 51 (px_wr (((px_up (px_up s 150 0 0) 178 ((px_up s 150 0 0) 150 51).toNat x1) 150 51) + 1)))) rfl ?_
        cases h
        exact px_D_iret rfl rfl ⟨rfl, rfl⟩
      · have hc3 : ((px_up s 150 0 0) 150 51) = (8) := Decidable.of_not_not (of_decide_eq_false hc)
        rw [if_pos hc3] at h
        refine px_D_st 1 (ip1 := 16) (ls1 := [(0, .inr (.inr 150)), (1, .inl (x1))]) (st1 := [.inl ((-1))]) (h1 := (px_G1, px_up s 150 0 0)) rfl ?_
        cases h
        exact px_D_iret rfl rfl ⟨rfl, rfl⟩

def j_M_letters_j16 (s : px_Z) (x1 : Int) : Option (Int × px_Z) := (f_M_findsOrders s (s 150 51) 1).bind (fun q2 => if (x1) = (0) then some (q2 177 0, q2) else (if (q2 177 0) = (0) then some (((-1), q2)) else (f_M_orderedAt q2 0 (px_wr (x1 - 10)) 1).bind (fun q5 => some (q5, q2))))
set_option maxHeartbeats 4000000 in
set_option maxRecDepth 100000 in
theorem cj_M_letters_j16 {sc : List Int} {d : Nat} {s : px_Z} {x1 : Int} {out : Int × px_Z} (h : j_M_letters_j16 s x1 = some out) : px_D sc (d + 4) 261 16 [(0, .inr (.inr 150)), (1, .inl (x1))] [] (px_G1, s) (px_Qi out) := by
  unfold j_M_letters_j16 at h
  refine px_D_st 4 (ip1 := 20) (ls1 := [(0, .inr (.inr 150)), (1, .inl (x1))]) (st1 := [.inl (1), .inl (s 150 51), .inr (.inr 150)]) (h1 := (px_G1, s)) rfl ?_
  refine px_D_call (as := [.inr (.inr 150), .inl (s 150 51), .inl (1)]) (rest := []) rfl rfl rfl rfl ?_
  obtain ⟨q2, hq2, h⟩ := Option.bind_eq_some_iff.mp h
  refine px_D_mono (c_M_findsOrders (d := d + 0) hq2) ?_
  rintro _ _ ⟨rfl, rfl⟩
  show px_D sc (d + 4) 261 21 [(0, .inr (.inr 150)), (1, .inl (x1))] [] (px_G1, q2) _
  refine px_D_st 1 (ip1 := 22) (ls1 := [(0, .inr (.inr 150)), (1, .inl (x1))]) (st1 := [.inl (x1)]) (h1 := (px_G1, q2)) rfl ?_
  refine px_D_ifc rfl (fun hc => ?_) (fun hc => ?_)
  · have hc3 : ¬ ((x1) = (0)) := of_decide_eq_true hc
    rw [if_neg hc3] at h
    refine px_D_st 4 (ip1 := 32) (ls1 := [(0, .inr (.inr 150)), (1, .inl (x1))]) (st1 := [.inl (q2 177 0)]) (h1 := (px_G1, q2)) rfl ?_
    refine px_D_ifc rfl (fun hc => ?_) (fun hc => ?_)
    · have hc4 : ¬ ((q2 177 0) = (0)) := of_decide_eq_true hc
      rw [if_neg hc4] at h
      refine px_D_st 6 (ip1 := 41) (ls1 := [(0, .inr (.inr 150)), (1, .inl (x1))]) (st1 := [.inl (1), .inl (px_wr (x1 - 10)), .inl (0), .inr (.inr 150)]) (h1 := (px_G1, q2)) rfl ?_
      refine px_D_call (as := [.inr (.inr 150), .inl (0), .inl (px_wr (x1 - 10)), .inl (1)]) (rest := []) rfl rfl rfl rfl ?_
      obtain ⟨q5, hq5, h⟩ := Option.bind_eq_some_iff.mp h
      refine px_D_mono (c_M_orderedAt (d := d + 0) hq5) ?_
      rintro _ _ ⟨rfl, rfl⟩
      show px_D sc (d + 4) 261 42 [(0, .inr (.inr 150)), (1, .inl (x1))] [.inl (q5)] (px_G1, q2) _
      cases h
      exact px_D_iret rfl rfl ⟨rfl, rfl⟩
    · have hc4 : (q2 177 0) = (0) := Decidable.of_not_not (of_decide_eq_false hc)
      rw [if_pos hc4] at h
      refine px_D_st 2 (ip1 := 42) (ls1 := [(0, .inr (.inr 150)), (1, .inl (x1))]) (st1 := [.inl ((-1))]) (h1 := (px_G1, q2)) rfl ?_
      cases h
      exact px_D_iret rfl rfl ⟨rfl, rfl⟩
  · have hc3 : (x1) = (0) := Decidable.of_not_not (of_decide_eq_false hc)
    rw [if_pos hc3] at h
    refine px_D_st 4 (ip1 := 27) (ls1 := [(0, .inr (.inr 150)), (1, .inl (x1))]) (st1 := [.inl (q2 177 0)]) (h1 := (px_G1, q2)) rfl ?_
    cases h
    exact px_D_iret rfl rfl ⟨rfl, rfl⟩
def f_M_letters (s : px_Z) (x1 : Int) : Option (Int × px_Z) := if (x1) = (0) then j_M_letters_j16 (px_up s 150 0 0) x1 else (if (f_M_isIn (px_up s 150 0 0) x1 10 (px_wr (9 + ((px_up s 150 0 0) 150 51)))) = (0) then some (((-1), px_up s 150 0 0)) else j_M_letters_j16 (px_up s 150 0 0) x1)
set_option maxHeartbeats 4000000 in
set_option maxRecDepth 100000 in
theorem c_M_letters {sc : List Int} {d : Nat} {s : px_Z} {x1 : Int} {out : Int × px_Z} (h : f_M_letters s x1 = some out) : px_D sc (d + 4) 261 0 [(0, .inr (.inr 150)), (1, .inl (x1))] [] (px_G1, s) (px_Qi out) := by
  unfold f_M_letters at h
  refine px_D_st 4 (ip1 := 4) (ls1 := [(0, .inr (.inr 150)), (1, .inl (x1))]) (st1 := [.inl (x1)]) (h1 := (px_G1, px_up s 150 0 0)) rfl ?_
  refine px_D_ifc rfl (fun hc => ?_) (fun hc => ?_)
  · have hc1 : (x1) = (0) := of_decide_eq_true hc
    rw [if_pos hc1] at h
    refine px_D_ls [(0, .inr (.inr 150)), (1, .inl (x1))] rfl rfl (List.forall_mem_cons.mpr ⟨rfl, List.forall_mem_cons.mpr ⟨rfl, fun _ h => absurd h List.not_mem_nil⟩⟩) ?_
    exact cj_M_letters_j16 h
  · have hc1 : ¬ ((x1) = (0)) := of_decide_eq_false hc
    rw [if_neg hc1] at h
    refine px_D_st 7 (ip1 := 12) (ls1 := [(0, .inr (.inr 150)), (1, .inl (x1))]) (st1 := [.inl (px_wr (9 + ((px_up s 150 0 0) 150 51))), .inl (10), .inl (x1), .inr (.inr 150)]) (h1 := (px_G1, px_up s 150 0 0)) rfl ?_
    refine px_D_call (as := [.inr (.inr 150), .inl (x1), .inl (10), .inl (px_wr (9 + ((px_up s 150 0 0) 150 51)))]) (rest := []) rfl rfl rfl rfl ?_
    refine px_D_mono (c_M_isIn (d := d + 3) rfl) ?_
    rintro _ _ ⟨rfl, rfl⟩
    show px_D sc (d + 4) 261 13 [(0, .inr (.inr 150)), (1, .inl (x1))] [.inl (f_M_isIn (px_up s 150 0 0) x1 10 (px_wr (9 + ((px_up s 150 0 0) 150 51))))] (px_G1, px_up s 150 0 0) _
    refine px_D_ifc rfl (fun hc => ?_) (fun hc => ?_)
    · have hc6 : ¬ ((f_M_isIn (px_up s 150 0 0) x1 10 (px_wr (9 + ((px_up s 150 0 0) 150 51)))) = (0)) := of_decide_eq_true hc
      rw [if_neg hc6] at h
      refine px_D_ls [(0, .inr (.inr 150)), (1, .inl (x1))] rfl rfl (List.forall_mem_cons.mpr ⟨rfl, List.forall_mem_cons.mpr ⟨rfl, fun _ h => absurd h List.not_mem_nil⟩⟩) ?_
      exact cj_M_letters_j16 h
    · have hc6 : (f_M_isIn (px_up s 150 0 0) x1 10 (px_wr (9 + ((px_up s 150 0 0) 150 51)))) = (0) := Decidable.of_not_not (of_decide_eq_false hc)
      rw [if_pos hc6] at h
      refine px_D_st 1 (ip1 := 15) (ls1 := [(0, .inr (.inr 150)), (1, .inl (x1))]) (st1 := [.inl ((-1))]) (h1 := (px_G1, px_up s 150 0 0)) rfl ?_
      cases h
      exact px_D_iret rfl rfl ⟨rfl, rfl⟩

def l_M_fits_21 (k34 : px_Z → Int → Int → Int → Option (Int × px_Z)) : Nat → px_Z → Int → Int → Int → Int → Int → Int → Option (Int × px_Z)
  | 0, _, _, _, _, _, _, _ => none
  | n + 1, s, x1, x2, x3, x4, x5, x6 => if (6) ≤ (x6) then k34 s x1 x2 x5 else (f_M_mudOf s x6 x3).bind (fun q4 => if (q4) = (x4) then l_M_fits_21 k34 n s x1 x2 x3 x4 1 (px_wr (x6 + 1)) else l_M_fits_21 k34 n s x1 x2 x3 x4 x5 (px_wr (x6 + 1)))
set_option maxHeartbeats 4000000 in
set_option maxRecDepth 100000 in
theorem cl_M_fits_21 {sc : List Int} {d : Nat} {k34 : px_Z → Int → Int → Int → Option (Int × px_Z)}  (hk34 : ∀ (s : px_Z) (y1 : Int) (y2 : Int) (y5 : Int) (out : Int × px_Z), k34 s y1 y2 y5 = some out → px_D sc (d + 2) 262 34 [(0, .inr (.inr 150)), (1, .inl (y1)), (2, .inl (y2)), (5, .inl (y5))] [] (px_G1, s) (px_Qi out)) : ∀ (n : Nat) (s : px_Z) (x1 : Int) (x2 : Int) (x3 : Int) (x4 : Int) (x5 : Int) (x6 : Int) (out : Int × px_Z), l_M_fits_21 k34 n s x1 x2 x3 x4 x5 x6 = some out → px_D sc (d + 2) 262 21 [(0, .inr (.inr 150)), (1, .inl (x1)), (2, .inl (x2)), (3, .inl (x3)), (4, .inl (x4)), (5, .inl (x5)), (6, .inl (x6))] [] (px_G1, s) (px_Qi out) := by
  intro n
  induction n with
  | zero => intro s x1 x2 x3 x4 x5 x6 out h; cases h
  | succ n ih =>
    intro s x1 x2 x3 x4 x5 x6 out h
    rw [l_M_fits_21] at h
    refine px_D_st 2 (ip1 := 23) (ls1 := [(0, .inr (.inr 150)), (1, .inl (x1)), (2, .inl (x2)), (3, .inl (x3)), (4, .inl (x4)), (5, .inl (x5)), (6, .inl (x6))]) (st1 := [.inl (6), .inl (x6)]) (h1 := (px_G1, s)) rfl ?_
    refine px_D_icmp rfl (fun hc => ?_) (fun hc => ?_)
    · have hc3 : (6) ≤ (x6) := of_decide_eq_true hc
      rw [if_pos hc3] at h
      refine px_D_ls [(0, .inr (.inr 150)), (1, .inl (x1)), (2, .inl (x2)), (5, .inl (x5))] rfl rfl (List.forall_mem_cons.mpr ⟨rfl, List.forall_mem_cons.mpr ⟨rfl, List.forall_mem_cons.mpr ⟨rfl, List.forall_mem_cons.mpr ⟨rfl, fun _ h => absurd h List.not_mem_nil⟩⟩⟩⟩) ?_
      exact hk34 _ _ _ _ _ h
    · have hc3 : ¬ ((6) ≤ (x6)) := of_decide_eq_false hc
      rw [if_neg hc3] at h
      refine px_D_st 3 (ip1 := 27) (ls1 := [(0, .inr (.inr 150)), (1, .inl (x1)), (2, .inl (x2)), (3, .inl (x3)), (4, .inl (x4)), (5, .inl (x5)), (6, .inl (x6))]) (st1 := [.inl (x3), .inl (x6), .inr (.inr 150)]) (h1 := (px_G1, s)) rfl ?_
      refine px_D_call (as := [.inr (.inr 150), .inl (x6), .inl (x3)]) (rest := []) rfl rfl rfl rfl ?_
      obtain ⟨q4, hq4, h⟩ := Option.bind_eq_some_iff.mp h
      refine px_D_mono (c_M_mudOf (d := d + 0) hq4) ?_
      rintro _ _ ⟨rfl, rfl⟩
      show px_D sc (d + 2) 262 28 [(0, .inr (.inr 150)), (1, .inl (x1)), (2, .inl (x2)), (3, .inl (x3)), (4, .inl (x4)), (5, .inl (x5)), (6, .inl (x6))] [.inl (q4)] (px_G1, s) _
      refine px_D_st 1 (ip1 := 29) (ls1 := [(0, .inr (.inr 150)), (1, .inl (x1)), (2, .inl (x2)), (3, .inl (x3)), (4, .inl (x4)), (5, .inl (x5)), (6, .inl (x6))]) (st1 := [.inl (x4), .inl (q4)]) (h1 := (px_G1, s)) rfl ?_
      refine px_D_icmp rfl (fun hc => ?_) (fun hc => ?_)
      · have hc5 : ¬ ((q4) = (x4)) := of_decide_eq_true hc
        rw [if_neg hc5] at h
        refine px_D_st 2 (ip1 := 21) (ls1 := [(6, .inl (px_wr (x6 + 1))), (0, .inr (.inr 150)), (1, .inl (x1)), (2, .inl (x2)), (3, .inl (x3)), (4, .inl (x4)), (5, .inl (x5))]) (st1 := []) (h1 := (px_G1, s)) rfl ?_
        refine px_D_ls [(0, .inr (.inr 150)), (1, .inl (x1)), (2, .inl (x2)), (3, .inl (x3)), (4, .inl (x4)), (5, .inl (x5)), (6, .inl (px_wr (x6 + 1)))] rfl rfl (List.forall_mem_cons.mpr ⟨rfl, List.forall_mem_cons.mpr ⟨rfl, List.forall_mem_cons.mpr ⟨rfl, List.forall_mem_cons.mpr ⟨rfl, List.forall_mem_cons.mpr ⟨rfl, List.forall_mem_cons.mpr ⟨rfl, List.forall_mem_cons.mpr ⟨rfl, fun _ h => absurd h List.not_mem_nil⟩⟩⟩⟩⟩⟩⟩) ?_
        exact ih _ _ _ _ _ _ _ _ h
      · have hc5 : (q4) = (x4) := Decidable.of_not_not (of_decide_eq_false hc)
        rw [if_pos hc5] at h
        refine px_D_st 4 (ip1 := 21) (ls1 := [(6, .inl (px_wr (x6 + 1))), (5, .inl (1)), (0, .inr (.inr 150)), (1, .inl (x1)), (2, .inl (x2)), (3, .inl (x3)), (4, .inl (x4))]) (st1 := []) (h1 := (px_G1, s)) rfl ?_
        refine px_D_ls [(0, .inr (.inr 150)), (1, .inl (x1)), (2, .inl (x2)), (3, .inl (x3)), (4, .inl (x4)), (5, .inl (1)), (6, .inl (px_wr (x6 + 1)))] rfl rfl (List.forall_mem_cons.mpr ⟨rfl, List.forall_mem_cons.mpr ⟨rfl, List.forall_mem_cons.mpr ⟨rfl, List.forall_mem_cons.mpr ⟨rfl, List.forall_mem_cons.mpr ⟨rfl, List.forall_mem_cons.mpr ⟨rfl, List.forall_mem_cons.mpr ⟨rfl, fun _ h => absurd h List.not_mem_nil⟩⟩⟩⟩⟩⟩⟩) ?_
        exact ih _ _ _ _ _ _ _ _ h
def l_M_fits_38  : Nat → px_Z → Int → Int → Int → Int → Int → Option (Int × px_Z)
  | 0, _, _, _, _, _, _ => none
  | n + 1, s, x1, x2, x5, x6, x7 => if (s 150 6) ≤ (x7) then some (x6, s) else (if (x5) = (0) then some (x6, s) else (f_M_isHome s x7).bind (fun q8 => if (q8) = (0) then (if 0 ≤ (px_wr (8 + x7)) ∧ (px_wr (8 + x7)) < 40 then if (f_M_isIn s (s 151 (px_wr (8 + x7)).toNat) x1 x2) = (0) then l_M_fits_38  n s x1 x2 x5 x6 (px_wr (x7 + 1)) else l_M_fits_38  n s x1 x2 x5 (px_or (x6) ((px_shl (1) (x7)))) (px_wr (x7 + 1)) else none) else l_M_fits_38  n s x1 x2 x5 x6 (px_wr (x7 + 1))))
set_option maxHeartbeats 4000000 in
set_option maxRecDepth 100000 in
theorem cl_M_fits_38 {sc : List Int} {d : Nat}  : ∀ (n : Nat) (s : px_Z) (x1 : Int) (x2 : Int) (x5 : Int) (x6 : Int) (x7 : Int) (out : Int × px_Z), l_M_fits_38  n s x1 x2 x5 x6 x7 = some out → px_D sc (d + 2) 262 38 [(0, .inr (.inr 150)), (1, .inl (x1)), (2, .inl (x2)), (5, .inl (x5)), (6, .inl (x6)), (7, .inl (x7))] [] (px_G1, s) (px_Qi out) := by
  intro n
  induction n with
  | zero => intro s x1 x2 x5 x6 x7 out h; cases h
  | succ n ih =>
    intro s x1 x2 x5 x6 x7 out h
    rw [l_M_fits_38] at h
    refine px_D_st 3 (ip1 := 41) (ls1 := [(0, .inr (.inr 150)), (1, .inl (x1)), (2, .inl (x2)), (5, .inl (x5)), (6, .inl (x6)), (7, .inl (x7))]) (st1 := [.inl (s 150 6), .inl (x7)]) (h1 := (px_G1, s)) rfl ?_
    refine px_D_icmp rfl (fun hc => ?_) (fun hc => ?_)
    · have hc6 : (s 150 6) ≤ (x7) := of_decide_eq_true hc
      rw [if_pos hc6] at h
      refine px_D_st 1 (ip1 := 68) (ls1 := [(0, .inr (.inr 150)), (1, .inl (x1)), (2, .inl (x2)), (5, .inl (x5)), (6, .inl (x6)), (7, .inl (x7))]) (st1 := [.inl (x6)]) (h1 := (px_G1, s)) rfl ?_
      cases h
      exact px_D_iret rfl rfl ⟨rfl, rfl⟩
    · have hc6 : ¬ ((s 150 6) ≤ (x7)) := of_decide_eq_false hc
      rw [if_neg hc6] at h
      refine px_D_st 1 (ip1 := 43) (ls1 := [(0, .inr (.inr 150)), (1, .inl (x1)), (2, .inl (x2)), (5, .inl (x5)), (6, .inl (x6)), (7, .inl (x7))]) (st1 := [.inl (x5)]) (h1 := (px_G1, s)) rfl ?_
      refine px_D_ifc rfl (fun hc => ?_) (fun hc => ?_)
      · have hc7 : (x5) = (0) := of_decide_eq_true hc
        rw [if_pos hc7] at h
        refine px_D_st 1 (ip1 := 68) (ls1 := [(0, .inr (.inr 150)), (1, .inl (x1)), (2, .inl (x2)), (5, .inl (x5)), (6, .inl (x6)), (7, .inl (x7))]) (st1 := [.inl (x6)]) (h1 := (px_G1, s)) rfl ?_
        cases h
        exact px_D_iret rfl rfl ⟨rfl, rfl⟩
      · have hc7 : ¬ ((x5) = (0)) := of_decide_eq_false hc
        rw [if_neg hc7] at h
        refine px_D_st 2 (ip1 := 46) (ls1 := [(0, .inr (.inr 150)), (1, .inl (x1)), (2, .inl (x2)), (5, .inl (x5)), (6, .inl (x6)), (7, .inl (x7))]) (st1 := [.inl (x7), .inr (.inr 150)]) (h1 := (px_G1, s)) rfl ?_
        refine px_D_call (as := [.inr (.inr 150), .inl (x7)]) (rest := []) rfl rfl rfl rfl ?_
        obtain ⟨q8, hq8, h⟩ := Option.bind_eq_some_iff.mp h
        refine px_D_mono (c_M_isHome (d := d + 1) hq8) ?_
        rintro _ _ ⟨rfl, rfl⟩
        show px_D sc (d + 2) 262 47 [(0, .inr (.inr 150)), (1, .inl (x1)), (2, .inl (x2)), (5, .inl (x5)), (6, .inl (x6)), (7, .inl (x7))] [.inl (q8)] (px_G1, s) _
        refine px_D_ifc rfl (fun hc => ?_) (fun hc => ?_)
        · have hc9 : ¬ ((q8) = (0)) := of_decide_eq_true hc
          rw [if_neg hc9] at h
          refine px_D_st 2 (ip1 := 38) (ls1 := [(7, .inl (px_wr (x7 + 1))), (0, .inr (.inr 150)), (1, .inl (x1)), (2, .inl (x2)), (5, .inl (x5)), (6, .inl (x6))]) (st1 := []) (h1 := (px_G1, s)) rfl ?_
          refine px_D_ls [(0, .inr (.inr 150)), (1, .inl (x1)), (2, .inl (x2)), (5, .inl (x5)), (6, .inl (x6)), (7, .inl (px_wr (x7 + 1)))] rfl rfl (List.forall_mem_cons.mpr ⟨rfl, List.forall_mem_cons.mpr ⟨rfl, List.forall_mem_cons.mpr ⟨rfl, List.forall_mem_cons.mpr ⟨rfl, List.forall_mem_cons.mpr ⟨rfl, List.forall_mem_cons.mpr ⟨rfl, fun _ h => absurd h List.not_mem_nil⟩⟩⟩⟩⟩⟩) ?_
          exact ih _ _ _ _ _ _ _ h
        · have hc9 : (q8) = (0) := Decidable.of_not_not (of_decide_eq_false hc)
          rw [if_pos hc9] at h
          refine px_D_st 6 (ip1 := 54) (ls1 := [(0, .inr (.inr 150)), (1, .inl (x1)), (2, .inl (x2)), (5, .inl (x5)), (6, .inl (x6)), (7, .inl (x7))]) (st1 := [.inl (px_wr (8 + x7)), .inr (.inr 151), .inr (.inr 150)]) (h1 := (px_G1, s)) rfl ?_
          by_cases hc10 : 0 ≤ (px_wr (8 + x7)) ∧ (px_wr (8 + x7)) < 40
          case neg => rw [if_neg hc10] at h; cases h
          rw [if_pos hc10] at h
          refine px_D_iald (k := 146) (n := 40) rfl rfl hc10 ?_
          refine px_D_st 2 (ip1 := 57) (ls1 := [(0, .inr (.inr 150)), (1, .inl (x1)), (2, .inl (x2)), (5, .inl (x5)), (6, .inl (x6)), (7, .inl (x7))]) (st1 := [.inl (x2), .inl (x1), .inl (s 151 (px_wr (8 + x7)).toNat), .inr (.inr 150)]) (h1 := (px_G1, s)) rfl ?_
          refine px_D_call (as := [.inr (.inr 150), .inl (s 151 (px_wr (8 + x7)).toNat), .inl (x1), .inl (x2)]) (rest := []) rfl rfl rfl rfl ?_
          refine px_D_mono (c_M_isIn (d := d + 1) rfl) ?_
          rintro _ _ ⟨rfl, rfl⟩
          show px_D sc (d + 2) 262 58 [(0, .inr (.inr 150)), (1, .inl (x1)), (2, .inl (x2)), (5, .inl (x5)), (6, .inl (x6)), (7, .inl (x7))] [.inl (f_M_isIn s (s 151 (px_wr (8 + x7)).toNat) x1 x2)] (px_G1, s) _
          refine px_D_ifc rfl (fun hc => ?_) (fun hc => ?_)
          · have hc11 : (f_M_isIn s (s 151 (px_wr (8 + x7)).toNat) x1 x2) = (0) := of_decide_eq_true hc
            rw [if_pos hc11] at h
            refine px_D_st 2 (ip1 := 38) (ls1 := [(7, .inl (px_wr (x7 + 1))), (0, .inr (.inr 150)), (1, .inl (x1)), (2, .inl (x2)), (5, .inl (x5)), (6, .inl (x6))]) (st1 := []) (h1 := (px_G1, s)) rfl ?_
            refine px_D_ls [(0, .inr (.inr 150)), (1, .inl (x1)), (2, .inl (x2)), (5, .inl (x5)), (6, .inl (x6)), (7, .inl (px_wr (x7 + 1)))] rfl rfl (List.forall_mem_cons.mpr ⟨rfl, List.forall_mem_cons.mpr ⟨rfl, List.forall_mem_cons.mpr ⟨rfl, List.forall_mem_cons.mpr ⟨rfl, List.forall_mem_cons.mpr ⟨rfl, List.forall_mem_cons.mpr ⟨rfl, fun _ h => absurd h List.not_mem_nil⟩⟩⟩⟩⟩⟩) ?_
            exact ih _ _ _ _ _ _ _ h
          · have hc11 : ¬ ((f_M_isIn s (s 151 (px_wr (8 + x7)).toNat) x1 x2) = (0)) := of_decide_eq_false hc
            rw [if_neg hc11] at h
            refine px_D_st 8 (ip1 := 38) (ls1 := [(7, .inl (px_wr (x7 + 1))), (6, .inl (px_or (x6) ((px_shl (1) (x7))))), (0, .inr (.inr 150)), (1, .inl (x1)), (2, .inl (x2)), (5, .inl (x5))]) (st1 := []) (h1 := (px_G1, s)) rfl ?_
            refine px_D_ls [(0, .inr (.inr 150)), (1, .inl (x1)), (2, .inl (x2)), (5, .inl (x5)), (6, .inl (px_or (x6) ((px_shl (1) (x7))))), (7, .inl (px_wr (x7 + 1)))] rfl rfl (List.forall_mem_cons.mpr ⟨rfl, List.forall_mem_cons.mpr ⟨rfl, List.forall_mem_cons.mpr ⟨rfl, List.forall_mem_cons.mpr ⟨rfl, List.forall_mem_cons.mpr ⟨rfl, List.forall_mem_cons.mpr ⟨rfl, fun _ h => absurd h List.not_mem_nil⟩⟩⟩⟩⟩⟩) ?_
            exact ih _ _ _ _ _ _ _ h
def f_M_fits (s : px_Z) (x1 : Int) (x2 : Int) (x3 : Int) (x4 : Int) : Option (Int × px_Z) := if (f_M_isIn (px_up s 150 0 0) x3 0 60) = (0) then some (((-1), px_up s 150 0 0)) else (if (f_M_isIn (px_up s 150 0 0) x4 0 5) = (0) then some (((-1), px_up s 150 0 0)) else l_M_fits_21 (fun s x1 x2 x5 => l_M_fits_38  px_big s x1 x2 x5 0 0) px_big (px_up s 150 0 0) x1 x2 x3 x4 0 0)
set_option maxHeartbeats 4000000 in
set_option maxRecDepth 100000 in
theorem c_M_fits {sc : List Int} {d : Nat} {s : px_Z} {x1 : Int} {x2 : Int} {x3 : Int} {x4 : Int} {out : Int × px_Z} (h : f_M_fits s x1 x2 x3 x4 = some out) : px_D sc (d + 2) 262 0 [(0, .inr (.inr 150)), (1, .inl (x1)), (2, .inl (x2)), (3, .inl (x3)), (4, .inl (x4))] [] (px_G1, s) (px_Qi out) := by
  unfold f_M_fits at h
  refine px_D_st 7 (ip1 := 7) (ls1 := [(0, .inr (.inr 150)), (1, .inl (x1)), (2, .inl (x2)), (3, .inl (x3)), (4, .inl (x4))]) (st1 := [.inl (60), .inl (0), .inl (x3), .inr (.inr 150)]) (h1 := (px_G1, px_up s 150 0 0)) rfl ?_
  refine px_D_call (as := [.inr (.inr 150), .inl (x3), .inl (0), .inl (60)]) (rest := []) rfl rfl rfl rfl ?_
  refine px_D_mono (c_M_isIn (d := d + 1) rfl) ?_
  rintro _ _ ⟨rfl, rfl⟩
  show px_D sc (d + 2) 262 8 [(0, .inr (.inr 150)), (1, .inl (x1)), (2, .inl (x2)), (3, .inl (x3)), (4, .inl (x4))] [.inl (f_M_isIn (px_up s 150 0 0) x3 0 60)] (px_G1, px_up s 150 0 0) _
  refine px_D_ifc rfl (fun hc => ?_) (fun hc => ?_)
  · have hc1 : (f_M_isIn (px_up s 150 0 0) x3 0 60) = (0) := of_decide_eq_true hc
    rw [if_pos hc1] at h
    refine px_D_st 1 (ip1 := 16) (ls1 := [(0, .inr (.inr 150)), (1, .inl (x1)), (2, .inl (x2)), (3, .inl (x3)), (4, .inl (x4))]) (st1 := [.inl ((-1))]) (h1 := (px_G1, px_up s 150 0 0)) rfl ?_
    cases h
    exact px_D_iret rfl rfl ⟨rfl, rfl⟩
  · have hc1 : ¬ ((f_M_isIn (px_up s 150 0 0) x3 0 60) = (0)) := of_decide_eq_false hc
    rw [if_neg hc1] at h
    refine px_D_st 4 (ip1 := 13) (ls1 := [(0, .inr (.inr 150)), (1, .inl (x1)), (2, .inl (x2)), (3, .inl (x3)), (4, .inl (x4))]) (st1 := [.inl (5), .inl (0), .inl (x4), .inr (.inr 150)]) (h1 := (px_G1, px_up s 150 0 0)) rfl ?_
    refine px_D_call (as := [.inr (.inr 150), .inl (x4), .inl (0), .inl (5)]) (rest := []) rfl rfl rfl rfl ?_
    refine px_D_mono (c_M_isIn (d := d + 1) rfl) ?_
    rintro _ _ ⟨rfl, rfl⟩
    show px_D sc (d + 2) 262 14 [(0, .inr (.inr 150)), (1, .inl (x1)), (2, .inl (x2)), (3, .inl (x3)), (4, .inl (x4))] [.inl (f_M_isIn (px_up s 150 0 0) x4 0 5)] (px_G1, px_up s 150 0 0) _
    refine px_D_ifc rfl (fun hc => ?_) (fun hc => ?_)
    · have hc2 : ¬ ((f_M_isIn (px_up s 150 0 0) x4 0 5) = (0)) := of_decide_eq_true hc
      rw [if_neg hc2] at h
      refine px_D_st 4 (ip1 := 21) (ls1 := [(6, .inl (0)), (5, .inl (0)), (0, .inr (.inr 150)), (1, .inl (x1)), (2, .inl (x2)), (3, .inl (x3)), (4, .inl (x4))]) (st1 := []) (h1 := (px_G1, px_up s 150 0 0)) rfl ?_
      refine px_D_ls [(0, .inr (.inr 150)), (1, .inl (x1)), (2, .inl (x2)), (3, .inl (x3)), (4, .inl (x4)), (5, .inl (0)), (6, .inl (0))] rfl rfl (List.forall_mem_cons.mpr ⟨rfl, List.forall_mem_cons.mpr ⟨rfl, List.forall_mem_cons.mpr ⟨rfl, List.forall_mem_cons.mpr ⟨rfl, List.forall_mem_cons.mpr ⟨rfl, List.forall_mem_cons.mpr ⟨rfl, List.forall_mem_cons.mpr ⟨rfl, fun _ h => absurd h List.not_mem_nil⟩⟩⟩⟩⟩⟩⟩) ?_
      refine cl_M_fits_21 ?_ px_big _ _ _ _ _ _ _ _ h
      · intro s x1 x2 x5 out h
        refine px_D_st 4 (ip1 := 38) (ls1 := [(7, .inl (0)), (6, .inl (0)), (0, .inr (.inr 150)), (1, .inl (x1)), (2, .inl (x2)), (5, .inl (x5))]) (st1 := []) (h1 := (px_G1, s)) rfl ?_
        refine px_D_ls [(0, .inr (.inr 150)), (1, .inl (x1)), (2, .inl (x2)), (5, .inl (x5)), (6, .inl (0)), (7, .inl (0))] rfl rfl (List.forall_mem_cons.mpr ⟨rfl, List.forall_mem_cons.mpr ⟨rfl, List.forall_mem_cons.mpr ⟨rfl, List.forall_mem_cons.mpr ⟨rfl, List.forall_mem_cons.mpr ⟨rfl, List.forall_mem_cons.mpr ⟨rfl, fun _ h => absurd h List.not_mem_nil⟩⟩⟩⟩⟩⟩) ?_
        refine cl_M_fits_38  px_big _ _ _ _ _ _ _ h
    · have hc2 : (f_M_isIn (px_up s 150 0 0) x4 0 5) = (0) := Decidable.of_not_not (of_decide_eq_false hc)
      rw [if_pos hc2] at h
      refine px_D_st 1 (ip1 := 16) (ls1 := [(0, .inr (.inr 150)), (1, .inl (x1)), (2, .inl (x2)), (3, .inl (x3)), (4, .inl (x4))]) (st1 := [.inl ((-1))]) (h1 := (px_G1, px_up s 150 0 0)) rfl ?_
      cases h
      exact px_D_iret rfl rfl ⟨rfl, rfl⟩

def l_M_liesBy_2 (s : px_Z)  : Nat → Int → Int → Int → Option (Int)
  | 0, _, _, _ => none
  | n + 1, x1, x2, x3 => if (s 150 35) ≤ (x3) then some 0 else (f_M_ofHill s x3 0).bind (fun q2 => if (q2) = (x1) then (f_M_ofHill s x3 1).bind (fun q4 => if (q4) = (x2) then some 1 else l_M_liesBy_2 s  n x1 x2 (px_wr (x3 + 1))) else l_M_liesBy_2 s  n x1 x2 (px_wr (x3 + 1)))
set_option maxHeartbeats 4000000 in
set_option maxRecDepth 100000 in
theorem cl_M_liesBy_2 {sc : List Int} {d : Nat} {s : px_Z}  : ∀ (n : Nat) (x1 : Int) (x2 : Int) (x3 : Int) (out : Int), l_M_liesBy_2 s  n x1 x2 x3 = some out → px_D sc (d + 1) 263 2 [(0, .inr (.inr 150)), (1, .inl (x1)), (2, .inl (x2)), (3, .inl (x3))] [] (px_G1, s) (px_Qp s out) := by
  intro n
  induction n with
  | zero => intro x1 x2 x3 out h; cases h
  | succ n ih =>
    intro x1 x2 x3 out h
    rw [l_M_liesBy_2] at h
    refine px_D_st 3 (ip1 := 5) (ls1 := [(0, .inr (.inr 150)), (1, .inl (x1)), (2, .inl (x2)), (3, .inl (x3))]) (st1 := [.inl (s 150 35), .inl (x3)]) (h1 := (px_G1, s)) rfl ?_
    refine px_D_icmp rfl (fun hc => ?_) (fun hc => ?_)
    · have hc1 : (s 150 35) ≤ (x3) := of_decide_eq_true hc
      rw [if_pos hc1] at h
      refine px_D_st 1 (ip1 := 23) (ls1 := [(0, .inr (.inr 150)), (1, .inl (x1)), (2, .inl (x2)), (3, .inl (x3))]) (st1 := [.inl (0)]) (h1 := (px_G1, s)) rfl ?_
      cases h
      exact px_D_iret rfl rfl ⟨rfl, rfl⟩
    · have hc1 : ¬ ((s 150 35) ≤ (x3)) := of_decide_eq_false hc
      rw [if_neg hc1] at h
      refine px_D_st 3 (ip1 := 9) (ls1 := [(0, .inr (.inr 150)), (1, .inl (x1)), (2, .inl (x2)), (3, .inl (x3))]) (st1 := [.inl (0), .inl (x3), .inr (.inr 150)]) (h1 := (px_G1, s)) rfl ?_
      refine px_D_call (as := [.inr (.inr 150), .inl (x3), .inl (0)]) (rest := []) rfl rfl rfl rfl ?_
      obtain ⟨q2, hq2, h⟩ := Option.bind_eq_some_iff.mp h
      refine px_D_mono (c_M_ofHill (d := d + 0) hq2) ?_
      rintro _ _ ⟨rfl, rfl⟩
      show px_D sc (d + 1) 263 10 [(0, .inr (.inr 150)), (1, .inl (x1)), (2, .inl (x2)), (3, .inl (x3))] [.inl (q2)] (px_G1, s) _
      refine px_D_st 1 (ip1 := 11) (ls1 := [(0, .inr (.inr 150)), (1, .inl (x1)), (2, .inl (x2)), (3, .inl (x3))]) (st1 := [.inl (x1), .inl (q2)]) (h1 := (px_G1, s)) rfl ?_
      refine px_D_icmp rfl (fun hc => ?_) (fun hc => ?_)
      · have hc3 : ¬ ((q2) = (x1)) := of_decide_eq_true hc
        rw [if_neg hc3] at h
        refine px_D_st 2 (ip1 := 2) (ls1 := [(3, .inl (px_wr (x3 + 1))), (0, .inr (.inr 150)), (1, .inl (x1)), (2, .inl (x2))]) (st1 := []) (h1 := (px_G1, s)) rfl ?_
        refine px_D_ls [(0, .inr (.inr 150)), (1, .inl (x1)), (2, .inl (x2)), (3, .inl (px_wr (x3 + 1)))] rfl rfl (List.forall_mem_cons.mpr ⟨rfl, List.forall_mem_cons.mpr ⟨rfl, List.forall_mem_cons.mpr ⟨rfl, List.forall_mem_cons.mpr ⟨rfl, fun _ h => absurd h List.not_mem_nil⟩⟩⟩⟩) ?_
        exact ih _ _ _ _ h
      · have hc3 : (q2) = (x1) := Decidable.of_not_not (of_decide_eq_false hc)
        rw [if_pos hc3] at h
        refine px_D_st 3 (ip1 := 15) (ls1 := [(0, .inr (.inr 150)), (1, .inl (x1)), (2, .inl (x2)), (3, .inl (x3))]) (st1 := [.inl (1), .inl (x3), .inr (.inr 150)]) (h1 := (px_G1, s)) rfl ?_
        refine px_D_call (as := [.inr (.inr 150), .inl (x3), .inl (1)]) (rest := []) rfl rfl rfl rfl ?_
        obtain ⟨q4, hq4, h⟩ := Option.bind_eq_some_iff.mp h
        refine px_D_mono (c_M_ofHill (d := d + 0) hq4) ?_
        rintro _ _ ⟨rfl, rfl⟩
        show px_D sc (d + 1) 263 16 [(0, .inr (.inr 150)), (1, .inl (x1)), (2, .inl (x2)), (3, .inl (x3))] [.inl (q4)] (px_G1, s) _
        refine px_D_st 1 (ip1 := 17) (ls1 := [(0, .inr (.inr 150)), (1, .inl (x1)), (2, .inl (x2)), (3, .inl (x3))]) (st1 := [.inl (x2), .inl (q4)]) (h1 := (px_G1, s)) rfl ?_
        refine px_D_icmp rfl (fun hc => ?_) (fun hc => ?_)
        · have hc5 : ¬ ((q4) = (x2)) := of_decide_eq_true hc
          rw [if_neg hc5] at h
          refine px_D_st 2 (ip1 := 2) (ls1 := [(3, .inl (px_wr (x3 + 1))), (0, .inr (.inr 150)), (1, .inl (x1)), (2, .inl (x2))]) (st1 := []) (h1 := (px_G1, s)) rfl ?_
          refine px_D_ls [(0, .inr (.inr 150)), (1, .inl (x1)), (2, .inl (x2)), (3, .inl (px_wr (x3 + 1)))] rfl rfl (List.forall_mem_cons.mpr ⟨rfl, List.forall_mem_cons.mpr ⟨rfl, List.forall_mem_cons.mpr ⟨rfl, List.forall_mem_cons.mpr ⟨rfl, fun _ h => absurd h List.not_mem_nil⟩⟩⟩⟩) ?_
          exact ih _ _ _ _ h
        · have hc5 : (q4) = (x2) := Decidable.of_not_not (of_decide_eq_false hc)
          rw [if_pos hc5] at h
          refine px_D_st 1 (ip1 := 19) (ls1 := [(0, .inr (.inr 150)), (1, .inl (x1)), (2, .inl (x2)), (3, .inl (x3))]) (st1 := [.inl (1)]) (h1 := (px_G1, s)) rfl ?_
          cases h
          exact px_D_iret rfl rfl ⟨rfl, rfl⟩
def f_M_liesBy (s : px_Z) (x1 : Int) (x2 : Int) : Option (Int) := l_M_liesBy_2 s  px_big x1 x2 0
set_option maxHeartbeats 4000000 in
set_option maxRecDepth 100000 in
theorem c_M_liesBy {sc : List Int} {d : Nat} {s : px_Z} {x1 : Int} {x2 : Int} {out : Int} (h : f_M_liesBy s x1 x2 = some out) : px_D sc (d + 1) 263 0 [(0, .inr (.inr 150)), (1, .inl (x1)), (2, .inl (x2))] [] (px_G1, s) (px_Qp s out) := by
  unfold f_M_liesBy at h
  refine px_D_st 2 (ip1 := 2) (ls1 := [(3, .inl (0)), (0, .inr (.inr 150)), (1, .inl (x1)), (2, .inl (x2))]) (st1 := []) (h1 := (px_G1, s)) rfl ?_
  refine px_D_ls [(0, .inr (.inr 150)), (1, .inl (x1)), (2, .inl (x2)), (3, .inl (0))] rfl rfl (List.forall_mem_cons.mpr ⟨rfl, List.forall_mem_cons.mpr ⟨rfl, List.forall_mem_cons.mpr ⟨rfl, List.forall_mem_cons.mpr ⟨rfl, fun _ h => absurd h List.not_mem_nil⟩⟩⟩⟩) ?_
  refine cl_M_liesBy_2  px_big _ _ _ _ h

def l_M_isCave_4 (s : px_Z) (k16 : Int → Int → Option (Int)) : Nat → Int → Int → Int → Option (Int)
  | 0, _, _, _ => none
  | n + 1, x1, x2, x3 => if (6) ≤ (x3) then k16 x1 x2 else (f_M_liesBy s x1 x3).bind (fun q2 => if (q2) = (0) then l_M_isCave_4 s k16 n x1 x2 (px_wr (x3 + 1)) else l_M_isCave_4 s k16 n x1 1 (px_wr (x3 + 1)))
set_option maxHeartbeats 4000000 in
set_option maxRecDepth 100000 in
theorem cl_M_isCave_4 {sc : List Int} {d : Nat} {s : px_Z} {k16 : Int → Int → Option (Int)}  (hk16 : ∀ (y1 : Int) (y2 : Int) (out : Int), k16 y1 y2 = some out → px_D sc (d + 2) 264 16 [(0, .inr (.inr 150)), (1, .inl (y1)), (2, .inl (y2))] [] (px_G1, s) (px_Qp s out)) : ∀ (n : Nat) (x1 : Int) (x2 : Int) (x3 : Int) (out : Int), l_M_isCave_4 s k16 n x1 x2 x3 = some out → px_D sc (d + 2) 264 4 [(0, .inr (.inr 150)), (1, .inl (x1)), (2, .inl (x2)), (3, .inl (x3))] [] (px_G1, s) (px_Qp s out) := by
  intro n
  induction n with
  | zero => intro x1 x2 x3 out h; cases h
  | succ n ih =>
    intro x1 x2 x3 out h
    rw [l_M_isCave_4] at h
    refine px_D_st 2 (ip1 := 6) (ls1 := [(0, .inr (.inr 150)), (1, .inl (x1)), (2, .inl (x2)), (3, .inl (x3))]) (st1 := [.inl (6), .inl (x3)]) (h1 := (px_G1, s)) rfl ?_
    refine px_D_icmp rfl (fun hc => ?_) (fun hc => ?_)
    · have hc1 : (6) ≤ (x3) := of_decide_eq_true hc
      rw [if_pos hc1] at h
      refine px_D_ls [(0, .inr (.inr 150)), (1, .inl (x1)), (2, .inl (x2))] rfl rfl (List.forall_mem_cons.mpr ⟨rfl, List.forall_mem_cons.mpr ⟨rfl, List.forall_mem_cons.mpr ⟨rfl, fun _ h => absurd h List.not_mem_nil⟩⟩⟩) ?_
      exact hk16 _ _ _ h
    · have hc1 : ¬ ((6) ≤ (x3)) := of_decide_eq_false hc
      rw [if_neg hc1] at h
      refine px_D_st 3 (ip1 := 10) (ls1 := [(0, .inr (.inr 150)), (1, .inl (x1)), (2, .inl (x2)), (3, .inl (x3))]) (st1 := [.inl (x3), .inl (x1), .inr (.inr 150)]) (h1 := (px_G1, s)) rfl ?_
      refine px_D_call (as := [.inr (.inr 150), .inl (x1), .inl (x3)]) (rest := []) rfl rfl rfl rfl ?_
      obtain ⟨q2, hq2, h⟩ := Option.bind_eq_some_iff.mp h
      refine px_D_mono (c_M_liesBy (d := d + 0) hq2) ?_
      rintro _ _ ⟨rfl, rfl⟩
      show px_D sc (d + 2) 264 11 [(0, .inr (.inr 150)), (1, .inl (x1)), (2, .inl (x2)), (3, .inl (x3))] [.inl (q2)] (px_G1, s) _
      refine px_D_ifc rfl (fun hc => ?_) (fun hc => ?_)
      · have hc3 : (q2) = (0) := of_decide_eq_true hc
        rw [if_pos hc3] at h
        refine px_D_st 2 (ip1 := 4) (ls1 := [(3, .inl (px_wr (x3 + 1))), (0, .inr (.inr 150)), (1, .inl (x1)), (2, .inl (x2))]) (st1 := []) (h1 := (px_G1, s)) rfl ?_
        refine px_D_ls [(0, .inr (.inr 150)), (1, .inl (x1)), (2, .inl (x2)), (3, .inl (px_wr (x3 + 1)))] rfl rfl (List.forall_mem_cons.mpr ⟨rfl, List.forall_mem_cons.mpr ⟨rfl, List.forall_mem_cons.mpr ⟨rfl, List.forall_mem_cons.mpr ⟨rfl, fun _ h => absurd h List.not_mem_nil⟩⟩⟩⟩) ?_
        exact ih _ _ _ _ h
      · have hc3 : ¬ ((q2) = (0)) := of_decide_eq_false hc
        rw [if_neg hc3] at h
        refine px_D_st 4 (ip1 := 4) (ls1 := [(3, .inl (px_wr (x3 + 1))), (2, .inl (1)), (0, .inr (.inr 150)), (1, .inl (x1))]) (st1 := []) (h1 := (px_G1, s)) rfl ?_
        refine px_D_ls [(0, .inr (.inr 150)), (1, .inl (x1)), (2, .inl (1)), (3, .inl (px_wr (x3 + 1)))] rfl rfl (List.forall_mem_cons.mpr ⟨rfl, List.forall_mem_cons.mpr ⟨rfl, List.forall_mem_cons.mpr ⟨rfl, List.forall_mem_cons.mpr ⟨rfl, fun _ h => absurd h List.not_mem_nil⟩⟩⟩⟩) ?_
        exact ih _ _ _ _ h
def l_M_isCave_18 (s : px_Z)  : Nat → Int → Int → Int → Option (Int)
  | 0, _, _, _ => none
  | n + 1, x1, x2, x3 => if (s 150 6) ≤ (x3) then (if (x2) = 0 ∨ (x2) = 1 then some x2 else none) else (f_M_isHome s x3).bind (fun q6 => if (q6) = (0) then l_M_isCave_18 s  n x1 x2 (px_wr (x3 + 1)) else (if 0 ≤ (px_wr (32 + x3)) ∧ (px_wr (32 + x3)) < 40 then (f_M_liesBy s x1 (px_wr ((s 151 (px_wr (32 + x3)).toNat) - 1))).bind (fun q9 => if (q9) = (0) then l_M_isCave_18 s  n x1 0 (px_wr (x3 + 1)) else l_M_isCave_18 s  n x1 x2 (px_wr (x3 + 1))) else none))
set_option maxHeartbeats 4000000 in
set_option maxRecDepth 100000 in
theorem cl_M_isCave_18 {sc : List Int} {d : Nat} {s : px_Z}  : ∀ (n : Nat) (x1 : Int) (x2 : Int) (x3 : Int) (out : Int), l_M_isCave_18 s  n x1 x2 x3 = some out → px_D sc (d + 2) 264 18 [(0, .inr (.inr 150)), (1, .inl (x1)), (2, .inl (x2)), (3, .inl (x3))] [] (px_G1, s) (px_Qp s out) := by
  intro n
  induction n with
  | zero => intro x1 x2 x3 out h; cases h
  | succ n ih =>
    intro x1 x2 x3 out h
    rw [l_M_isCave_18] at h
    refine px_D_st 3 (ip1 := 21) (ls1 := [(0, .inr (.inr 150)), (1, .inl (x1)), (2, .inl (x2)), (3, .inl (x3))]) (st1 := [.inl (s 150 6), .inl (x3)]) (h1 := (px_G1, s)) rfl ?_
    refine px_D_icmp rfl (fun hc => ?_) (fun hc => ?_)
    · have hc4 : (s 150 6) ≤ (x3) := of_decide_eq_true hc
      rw [if_pos hc4] at h
      refine px_D_st 1 (ip1 := 43) (ls1 := [(0, .inr (.inr 150)), (1, .inl (x1)), (2, .inl (x2)), (3, .inl (x3))]) (st1 := [.inl (x2)]) (h1 := (px_G1, s)) rfl ?_
      by_cases hc5 : (x2) = 0 ∨ (x2) = 1
      case neg => rw [if_neg hc5] at h; cases h
      rw [if_pos hc5] at h
      cases h
      exact px_D_iret rfl (px_bz hc5) ⟨rfl, rfl⟩
    · have hc4 : ¬ ((s 150 6) ≤ (x3)) := of_decide_eq_false hc
      rw [if_neg hc4] at h
      refine px_D_st 2 (ip1 := 24) (ls1 := [(0, .inr (.inr 150)), (1, .inl (x1)), (2, .inl (x2)), (3, .inl (x3))]) (st1 := [.inl (x3), .inr (.inr 150)]) (h1 := (px_G1, s)) rfl ?_
      refine px_D_call (as := [.inr (.inr 150), .inl (x3)]) (rest := []) rfl rfl rfl rfl ?_
      obtain ⟨q6, hq6, h⟩ := Option.bind_eq_some_iff.mp h
      refine px_D_mono (c_M_isHome (d := d + 1) hq6) ?_
      rintro _ _ ⟨rfl, rfl⟩
      show px_D sc (d + 2) 264 25 [(0, .inr (.inr 150)), (1, .inl (x1)), (2, .inl (x2)), (3, .inl (x3))] [.inl (q6)] (px_G1, s) _
      refine px_D_ifc rfl (fun hc => ?_) (fun hc => ?_)
      · have hc7 : (q6) = (0) := of_decide_eq_true hc
        rw [if_pos hc7] at h
        refine px_D_st 2 (ip1 := 18) (ls1 := [(3, .inl (px_wr (x3 + 1))), (0, .inr (.inr 150)), (1, .inl (x1)), (2, .inl (x2))]) (st1 := []) (h1 := (px_G1, s)) rfl ?_
        refine px_D_ls [(0, .inr (.inr 150)), (1, .inl (x1)), (2, .inl (x2)), (3, .inl (px_wr (x3 + 1)))] rfl rfl (List.forall_mem_cons.mpr ⟨rfl, List.forall_mem_cons.mpr ⟨rfl, List.forall_mem_cons.mpr ⟨rfl, List.forall_mem_cons.mpr ⟨rfl, fun _ h => absurd h List.not_mem_nil⟩⟩⟩⟩) ?_
        exact ih _ _ _ _ h
      · have hc7 : ¬ ((q6) = (0)) := of_decide_eq_false hc
        rw [if_neg hc7] at h
        refine px_D_st 7 (ip1 := 33) (ls1 := [(0, .inr (.inr 150)), (1, .inl (x1)), (2, .inl (x2)), (3, .inl (x3))]) (st1 := [.inl (px_wr (32 + x3)), .inr (.inr 151), .inl (x1), .inr (.inr 150)]) (h1 := (px_G1, s)) rfl ?_
        by_cases hc8 : 0 ≤ (px_wr (32 + x3)) ∧ (px_wr (32 + x3)) < 40
        case neg => rw [if_neg hc8] at h; cases h
        rw [if_pos hc8] at h
        refine px_D_iald (k := 146) (n := 40) rfl rfl hc8 ?_
        refine px_D_st 2 (ip1 := 36) (ls1 := [(0, .inr (.inr 150)), (1, .inl (x1)), (2, .inl (x2)), (3, .inl (x3))]) (st1 := [.inl (px_wr ((s 151 (px_wr (32 + x3)).toNat) - 1)), .inl (x1), .inr (.inr 150)]) (h1 := (px_G1, s)) rfl ?_
        refine px_D_call (as := [.inr (.inr 150), .inl (x1), .inl (px_wr ((s 151 (px_wr (32 + x3)).toNat) - 1))]) (rest := []) rfl rfl rfl rfl ?_
        obtain ⟨q9, hq9, h⟩ := Option.bind_eq_some_iff.mp h
        refine px_D_mono (c_M_liesBy (d := d + 0) hq9) ?_
        rintro _ _ ⟨rfl, rfl⟩
        show px_D sc (d + 2) 264 37 [(0, .inr (.inr 150)), (1, .inl (x1)), (2, .inl (x2)), (3, .inl (x3))] [.inl (q9)] (px_G1, s) _
        refine px_D_ifc rfl (fun hc => ?_) (fun hc => ?_)
        · have hc10 : ¬ ((q9) = (0)) := of_decide_eq_true hc
          rw [if_neg hc10] at h
          refine px_D_st 2 (ip1 := 18) (ls1 := [(3, .inl (px_wr (x3 + 1))), (0, .inr (.inr 150)), (1, .inl (x1)), (2, .inl (x2))]) (st1 := []) (h1 := (px_G1, s)) rfl ?_
          refine px_D_ls [(0, .inr (.inr 150)), (1, .inl (x1)), (2, .inl (x2)), (3, .inl (px_wr (x3 + 1)))] rfl rfl (List.forall_mem_cons.mpr ⟨rfl, List.forall_mem_cons.mpr ⟨rfl, List.forall_mem_cons.mpr ⟨rfl, List.forall_mem_cons.mpr ⟨rfl, fun _ h => absurd h List.not_mem_nil⟩⟩⟩⟩) ?_
          exact ih _ _ _ _ h
        · have hc10 : (q9) = (0) := Decidable.of_not_not (of_decide_eq_false hc)
          rw [if_pos hc10] at h
          refine px_D_st 4 (ip1 := 18) (ls1 := [(3, .inl (px_wr (x3 + 1))), (2, .inl (0)), (0, .inr (.inr 150)), (1, .inl (x1))]) (st1 := []) (h1 := (px_G1, s)) rfl ?_
          refine px_D_ls [(0, .inr (.inr 150)), (1, .inl (x1)), (2, .inl (0)), (3, .inl (px_wr (x3 + 1)))] rfl rfl (List.forall_mem_cons.mpr ⟨rfl, List.forall_mem_cons.mpr ⟨rfl, List.forall_mem_cons.mpr ⟨rfl, List.forall_mem_cons.mpr ⟨rfl, fun _ h => absurd h List.not_mem_nil⟩⟩⟩⟩) ?_
          exact ih _ _ _ _ h
def f_M_isCave (s : px_Z) (x1 : Int) : Option (Int) := l_M_isCave_4 s (fun x1 x2 => l_M_isCave_18 s  px_big x1 x2 0) px_big x1 0 0
set_option maxHeartbeats 4000000 in
set_option maxRecDepth 100000 in
theorem c_M_isCave {sc : List Int} {d : Nat} {s : px_Z} {x1 : Int} {out : Int} (h : f_M_isCave s x1 = some out) : px_D sc (d + 2) 264 0 [(0, .inr (.inr 150)), (1, .inl (x1))] [] (px_G1, s) (px_Qp s out) := by
  unfold f_M_isCave at h
  refine px_D_st 4 (ip1 := 4) (ls1 := [(3, .inl (0)), (2, .inl (0)), (0, .inr (.inr 150)), (1, .inl (x1))]) (st1 := []) (h1 := (px_G1, s)) rfl ?_
  refine px_D_ls [(0, .inr (.inr 150)), (1, .inl (x1)), (2, .inl (0)), (3, .inl (0))] rfl rfl (List.forall_mem_cons.mpr ⟨rfl, List.forall_mem_cons.mpr ⟨rfl, List.forall_mem_cons.mpr ⟨rfl, List.forall_mem_cons.mpr ⟨rfl, fun _ h => absurd h List.not_mem_nil⟩⟩⟩⟩) ?_
  refine cl_M_isCave_4 ?_ px_big _ _ _ _ h
  · intro x1 x2 out h
    refine px_D_st 2 (ip1 := 18) (ls1 := [(3, .inl (0)), (0, .inr (.inr 150)), (1, .inl (x1)), (2, .inl (x2))]) (st1 := []) (h1 := (px_G1, s)) rfl ?_
    refine px_D_ls [(0, .inr (.inr 150)), (1, .inl (x1)), (2, .inl (x2)), (3, .inl (0))] rfl rfl (List.forall_mem_cons.mpr ⟨rfl, List.forall_mem_cons.mpr ⟨rfl, List.forall_mem_cons.mpr ⟨rfl, List.forall_mem_cons.mpr ⟨rfl, fun _ h => absurd h List.not_mem_nil⟩⟩⟩⟩) ?_
    refine cl_M_isCave_18  px_big _ _ _ _ h

def l_M_kept_7  : Nat → px_Z → Int → Int → Option (Int × px_Z)
  | 0, _, _, _ => none
  | n + 1, s, x1, x2 => if (8) ≤ (x2) then some (x1, s) else (f_M_isCave s x2).bind (fun q2 => if (q2) = (0) then l_M_kept_7  n s x1 (px_wr (x2 + 1)) else l_M_kept_7  n s (px_or (x1) ((px_shl (1) (x2)))) (px_wr (x2 + 1)))
set_option maxHeartbeats 4000000 in
set_option maxRecDepth 100000 in
theorem cl_M_kept_7 {sc : List Int} {d : Nat}  : ∀ (n : Nat) (s : px_Z) (x1 : Int) (x2 : Int) (out : Int × px_Z), l_M_kept_7  n s x1 x2 = some out → px_D sc (d + 3) 265 7 [(0, .inr (.inr 150)), (1, .inl (x1)), (2, .inl (x2))] [] (px_G1, s) (px_Qi out) := by
  intro n
  induction n with
  | zero => intro s x1 x2 out h; cases h
  | succ n ih =>
    intro s x1 x2 out h
    rw [l_M_kept_7] at h
    refine px_D_st 2 (ip1 := 9) (ls1 := [(0, .inr (.inr 150)), (1, .inl (x1)), (2, .inl (x2))]) (st1 := [.inl (8), .inl (x2)]) (h1 := (px_G1, s)) rfl ?_
    refine px_D_icmp rfl (fun hc => ?_) (fun hc => ?_)
    · have hc1 : (8) ≤ (x2) := of_decide_eq_true hc
      rw [if_pos hc1] at h
      refine px_D_st 1 (ip1 := 23) (ls1 := [(0, .inr (.inr 150)), (1, .inl (x1)), (2, .inl (x2))]) (st1 := [.inl (x1)]) (h1 := (px_G1, s)) rfl ?_
      cases h
      exact px_D_iret rfl rfl ⟨rfl, rfl⟩
    · have hc1 : ¬ ((8) ≤ (x2)) := of_decide_eq_false hc
      rw [if_neg hc1] at h
      refine px_D_st 2 (ip1 := 12) (ls1 := [(0, .inr (.inr 150)), (1, .inl (x1)), (2, .inl (x2))]) (st1 := [.inl (x2), .inr (.inr 150)]) (h1 := (px_G1, s)) rfl ?_
      refine px_D_call (as := [.inr (.inr 150), .inl (x2)]) (rest := []) rfl rfl rfl rfl ?_
      obtain ⟨q2, hq2, h⟩ := Option.bind_eq_some_iff.mp h
      refine px_D_mono (c_M_isCave (d := d + 0) hq2) ?_
      rintro _ _ ⟨rfl, rfl⟩
      show px_D sc (d + 3) 265 13 [(0, .inr (.inr 150)), (1, .inl (x1)), (2, .inl (x2))] [.inl (q2)] (px_G1, s) _
      refine px_D_ifc rfl (fun hc => ?_) (fun hc => ?_)
      · have hc3 : (q2) = (0) := of_decide_eq_true hc
        rw [if_pos hc3] at h
        refine px_D_st 2 (ip1 := 7) (ls1 := [(2, .inl (px_wr (x2 + 1))), (0, .inr (.inr 150)), (1, .inl (x1))]) (st1 := []) (h1 := (px_G1, s)) rfl ?_
        refine px_D_ls [(0, .inr (.inr 150)), (1, .inl (x1)), (2, .inl (px_wr (x2 + 1)))] rfl rfl (List.forall_mem_cons.mpr ⟨rfl, List.forall_mem_cons.mpr ⟨rfl, List.forall_mem_cons.mpr ⟨rfl, fun _ h => absurd h List.not_mem_nil⟩⟩⟩) ?_
        exact ih _ _ _ _ h
      · have hc3 : ¬ ((q2) = (0)) := of_decide_eq_false hc
        rw [if_neg hc3] at h
        refine px_D_st 8 (ip1 := 7) (ls1 := [(2, .inl (px_wr (x2 + 1))), (1, .inl (px_or (x1) ((px_shl (1) (x2))))), (0, .inr (.inr 150))]) (st1 := []) (h1 := (px_G1, s)) rfl ?_
        refine px_D_ls [(0, .inr (.inr 150)), (1, .inl (px_or (x1) ((px_shl (1) (x2))))), (2, .inl (px_wr (x2 + 1)))] rfl rfl (List.forall_mem_cons.mpr ⟨rfl, List.forall_mem_cons.mpr ⟨rfl, List.forall_mem_cons.mpr ⟨rfl, fun _ h => absurd h List.not_mem_nil⟩⟩⟩) ?_
        exact ih _ _ _ _ h
def f_M_kept (s : px_Z) : Option (Int × px_Z) := l_M_kept_7  px_big (px_up s 150 0 0) 0 0
set_option maxHeartbeats 4000000 in
set_option maxRecDepth 100000 in
theorem c_M_kept {sc : List Int} {d : Nat} {s : px_Z} {out : Int × px_Z} (h : f_M_kept s  = some out) : px_D sc (d + 3) 265 0 [(0, .inr (.inr 150))] [] (px_G1, s) (px_Qi out) := by
  unfold f_M_kept at h
  refine px_D_st 7 (ip1 := 7) (ls1 := [(2, .inl (0)), (1, .inl (0)), (0, .inr (.inr 150))]) (st1 := []) (h1 := (px_G1, px_up s 150 0 0)) rfl ?_
  refine px_D_ls [(0, .inr (.inr 150)), (1, .inl (0)), (2, .inl (0))] rfl rfl (List.forall_mem_cons.mpr ⟨rfl, List.forall_mem_cons.mpr ⟨rfl, List.forall_mem_cons.mpr ⟨rfl, fun _ h => absurd h List.not_mem_nil⟩⟩⟩) ?_
  refine cl_M_kept_7  px_big _ _ _ _ h

def f_M_sight (s : px_Z) (x1 : Int) (x2 : Int) (x3 : Int) : Option (Int × px_Z) := if (x1) = ((-1)) then some ((0, px_up (px_up s 150 0 0) 150 53 0)) else (if (f_M_isThing (px_up s 150 0 0) x1) = (0) then some (((-1), px_up s 150 0 0)) else (if (f_M_isIn (px_up s 150 0 0) x2 0 60) = (0) then some (((-1), px_up s 150 0 0)) else (if (f_M_isIn (px_up s 150 0 0) x3 0 99) = (0) then some (((-1), px_up s 150 0 0)) else (if ((px_up s 150 0 0) 150 53) = (12) then some (((-1), px_up s 150 0 0)) else (if 0 ≤ ((px_up s 150 0 0) 150 53) ∧ ((px_up s 150 0 0) 150 53) < 12 then if 0 ≤ ((px_up (px_up s 150 0 0) 179 ((px_up s 150 0 0) 150 53).toNat x1) 150 53) ∧ ((px_up (px_up s 150 0 0) 179 ((px_up s 150 0 0) 150 53).toNat x1) 150 53) < 12 then if 0 ≤ ((px_up (px_up (px_up s 150 0 0) 179 ((px_up s 150 0 0) 150 53).toNat x1) 180 ((px_up (px_up s 150 0 0) 179 ((px_up s 150 0 0) 150 53).toNat x1) 150 53).toNat x2) 150 53) ∧ ((px_up (px_up (px_up s 150 0 0) 179 ((px_up s 150 0 0) 150 53).toNat x1) 180 ((px_up (px_up s 150 0 0) 179 ((px_up s 150 0 0) 150 53).toNat x1) 150 53).toNat x2) 150 53) < 12 then some (((px_up (px_up (px_up (px_up (px_up s 150 0 0) 179 ((px_up s 150 0 0) 150 53).toNat x1) 180 ((px_up (px_up s 150 0 0) 179 ((px_up s 150 0 0) 150 53).toNat x1) 150 53).toNat x2) 181 ((px_up (px_up (px_up s 150 0 0) 179 ((px_up s 150 0 0) 150 53).toNat x1) 180 ((px_up (px_up s 150 0 0) 179 ((px_up s 150 0 0) 150 53).toNat x1) 150 53).toNat x2) 150 53).toNat x3) 150 53 (px_wr (((px_up (px_up (px_up (px_up s 150 0 0) 179 ((px_up s 150 0 0) 150 53).toNat x1) 180 ((px_up (px_up s 150 0 0) 179 ((px_up s 150 0 0) 150 53).toNat x1) 150 53).toNat x2) 181 ((px_up (px_up (px_up s 150 0 0) 179 ((px_up s 150 0 0) 150 53).toNat x1) 180 ((px_up (px_up s 150 0 0) 179 ((px_up s 150 0 0) 150 53).toNat x1) 150 53).toNat x2) 150 53).toNat x3) 150 53) + 1))) 150 53, px_up (px_up (px_up (px_up (px_up s 150 0 0) 179 ((px_up s 150 0 0) 150 53).toNat x1) 180 ((px_up (px_up s 150 0 0) 179 ((px_up s 150 0 0) 150 53).toNat x1) 150 53).toNat x2) 181 ((px_up (px_up (px_up s 150 0 0) 179 ((px_up s 150 0 0) 150 53).toNat x1) 180 ((px_up (px_up s 150 0 0) 179 ((px_up s 150 0 0) 150 53).toNat x1) 150 53).toNat x2) 150 53).toNat x3) 150 53 (px_wr (((px_up (px_up (px_up (px_up s 150 0 0) 179 ((px_up s 150 0 0) 150 53).toNat x1) 180 ((px_up (px_up s 150 0 0) 179 ((px_up s 150 0 0) 150 53).toNat x1) 150 53).toNat x2) 181 ((px_up (px_up (px_up s 150 0 0) 179 ((px_up s 150 0 0) 150 53).toNat x1) 180 ((px_up (px_up s 150 0 0) 179 ((px_up s 150 0 0) 150 53).toNat x1) 150 53).toNat x2) 150 53).toNat x3) 150 53) + 1)))) else none else none else none)))))
set_option maxHeartbeats 4000000 in
set_option maxRecDepth 100000 in
theorem c_M_sight {sc : List Int} {d : Nat} {s : px_Z} {x1 : Int} {x2 : Int} {x3 : Int} {out : Int × px_Z} (h : f_M_sight s x1 x2 x3 = some out) : px_D sc (d + 1) 266 0 [(0, .inr (.inr 150)), (1, .inl (x1)), (2, .inl (x2)), (3, .inl (x3))] [] (px_G1, s) (px_Qi out) := by
  unfold f_M_sight at h
  refine px_D_st 5 (ip1 := 5) (ls1 := [(0, .inr (.inr 150)), (1, .inl (x1)), (2, .inl (x2)), (3, .inl (x3))]) (st1 := [.inl ((-1)), .inl (x1)]) (h1 := (px_G1, px_up s 150 0 0)) rfl ?_
  refine px_D_icmp rfl (fun hc => ?_) (fun hc => ?_)
  · have hc1 : ¬ ((x1) = ((-1))) := of_decide_eq_true hc
    rw [if_neg hc1] at h
    refine px_D_st 2 (ip1 := 13) (ls1 := [(0, .inr (.inr 150)), (1, .inl (x1)), (2, .inl (x2)), (3, .inl (x3))]) (st1 := [.inl (x1), .inr (.inr 150)]) (h1 := (px_G1, px_up s 150 0 0)) rfl ?_
    refine px_D_call (as := [.inr (.inr 150), .inl (x1)]) (rest := []) rfl rfl rfl rfl ?_
    refine px_D_mono (c_M_isThing (d := d + 0) rfl) ?_
    rintro _ _ ⟨rfl, rfl⟩
    show px_D sc (d + 1) 266 14 [(0, .inr (.inr 150)), (1, .inl (x1)), (2, .inl (x2)), (3, .inl (x3))] [.inl (f_M_isThing (px_up s 150 0 0) x1)] (px_G1, px_up s 150 0 0) _
    refine px_D_ifc rfl (fun hc => ?_) (fun hc => ?_)
    · have hc2 : (f_M_isThing (px_up s 150 0 0) x1) = (0) := of_decide_eq_true hc
      rw [if_pos hc2] at h
      refine px_D_st 1 (ip1 := 32) (ls1 := [(0, .inr (.inr 150)), (1, .inl (x1)), (2, .inl (x2)), (3, .inl (x3))]) (st1 := [.inl ((-1))]) (h1 := (px_G1, px_up s 150 0 0)) rfl ?_
      cases h
      exact px_D_iret rfl rfl ⟨rfl, rfl⟩
    · have hc2 : ¬ ((f_M_isThing (px_up s 150 0 0) x1) = (0)) := of_decide_eq_false hc
      rw [if_neg hc2] at h
      refine px_D_st 4 (ip1 := 19) (ls1 := [(0, .inr (.inr 150)), (1, .inl (x1)), (2, .inl (x2)), (3, .inl (x3))]) (st1 := [.inl (60), .inl (0), .inl (x2), .inr (.inr 150)]) (h1 := (px_G1, px_up s 150 0 0)) rfl ?_
      refine px_D_call (as := [.inr (.inr 150), .inl (x2), .inl (0), .inl (60)]) (rest := []) rfl rfl rfl rfl ?_
      refine px_D_mono (c_M_isIn (d := d + 0) rfl) ?_
      rintro _ _ ⟨rfl, rfl⟩
      show px_D sc (d + 1) 266 20 [(0, .inr (.inr 150)), (1, .inl (x1)), (2, .inl (x2)), (3, .inl (x3))] [.inl (f_M_isIn (px_up s 150 0 0) x2 0 60)] (px_G1, px_up s 150 0 0) _
      refine px_D_ifc rfl (fun hc => ?_) (fun hc => ?_)
      · have hc3 : (f_M_isIn (px_up s 150 0 0) x2 0 60) = (0) := of_decide_eq_true hc
        rw [if_pos hc3] at h
        refine px_D_st 1 (ip1 := 32) (ls1 := [(0, .inr (.inr 150)), (1, .inl (x1)), (2, .inl (x2)), (3, .inl (x3))]) (st1 := [.inl ((-1))]) (h1 := (px_G1, px_up s 150 0 0)) rfl ?_
        cases h
        exact px_D_iret rfl rfl ⟨rfl, rfl⟩
      · have hc3 : ¬ ((f_M_isIn (px_up s 150 0 0) x2 0 60) = (0)) := of_decide_eq_false hc
        rw [if_neg hc3] at h
        refine px_D_st 4 (ip1 := 25) (ls1 := [(0, .inr (.inr 150)), (1, .inl (x1)), (2, .inl (x2)), (3, .inl (x3))]) (st1 := [.inl (99), .inl (0), .inl (x3), .inr (.inr 150)]) (h1 := (px_G1, px_up s 150 0 0)) rfl ?_
        refine px_D_call (as := [.inr (.inr 150), .inl (x3), .inl (0), .inl (99)]) (rest := []) rfl rfl rfl rfl ?_
        refine px_D_mono (c_M_isIn (d := d + 0) rfl) ?_
        rintro _ _ ⟨rfl, rfl⟩
        show px_D sc (d + 1) 266 26 [(0, .inr (.inr 150)), (1, .inl (x1)), (2, .inl (x2)), (3, .inl (x3))] [.inl (f_M_isIn (px_up s 150 0 0) x3 0 99)] (px_G1, px_up s 150 0 0) _
        refine px_D_ifc rfl (fun hc => ?_) (fun hc => ?_)
        · have hc4 : (f_M_isIn (px_up s 150 0 0) x3 0 99) = (0) := of_decide_eq_true hc
          rw [if_pos hc4] at h
          refine px_D_st 1 (ip1 := 32) (ls1 := [(0, .inr (.inr 150)), (1, .inl (x1)), (2, .inl (x2)), (3, .inl (x3))]) (st1 := [.inl ((-1))]) (h1 := (px_G1, px_up s 150 0 0)) rfl ?_
          cases h
          exact px_D_iret rfl rfl ⟨rfl, rfl⟩
        · have hc4 : ¬ ((f_M_isIn (px_up s 150 0 0) x3 0 99) = (0)) := of_decide_eq_false hc
          rw [if_neg hc4] at h
          refine px_D_st 3 (ip1 := 30) (ls1 := [(0, .inr (.inr 150)), (1, .inl (x1)), (2, .inl (x2)), (3, .inl (x3))]) (st1 := [.inl (12), .inl ((px_up s 150 0 0) 150 53)]) (h1 := (px_G1, px_up s 150 0 0)) rfl ?_
          refine px_D_icmp rfl (fun hc => ?_) (fun hc => ?_)
          · have hc5 : ¬ (((px_up s 150 0 0) 150 53) = (12)) := of_decide_eq_true hc
            rw [if_neg hc5] at h
            refine px_D_st 5 (ip1 := 38) (ls1 := [(0, .inr (.inr 150)), (1, .inl (x1)), (2, .inl (x2)), (3, .inl (x3))]) (st1 := [.inl (x1), .inl ((px_up s 150 0 0) 150 53), .inr (.inr 179)]) (h1 := (px_G1, px_up s 150 0 0)) rfl ?_
            by_cases hc6 : 0 ≤ ((px_up s 150 0 0) 150 53) ∧ ((px_up s 150 0 0) 150 53) < 12
            case neg => rw [if_neg hc6] at h; cases h
            rw [if_pos hc6] at h
            refine px_D_iast (k := 174) (n := 12) rfl rfl hc6 ?_
            refine px_D_st 5 (ip1 := 44) (ls1 := [(0, .inr (.inr 150)), (1, .inl (x1)), (2, .inl (x2)), (3, .inl (x3))]) (st1 := [.inl (x2), .inl ((px_up (px_up s 150 0 0) 179 ((px_up s 150 0 0) 150 53).toNat x1) 150 53), .inr (.inr 180)]) (h1 := (px_G1, px_up (px_up s 150 0 0) 179 ((px_up s 150 0 0) 150 53).toNat x1)) rfl ?_
            by_cases hc7 : 0 ≤ ((px_up (px_up s 150 0 0) 179 ((px_up s 150 0 0) 150 53).toNat x1) 150 53) ∧ ((px_up (px_up s 150 0 0) 179 ((px_up s 150 0 0) 150 53).toNat x1) 150 53) < 12
            case neg => rw [if_neg hc7] at h; cases h
            rw [if_pos hc7] at h
            refine px_D_iast (k := 175) (n := 12) rfl rfl hc7 ?_
            refine px_D_st 5 (ip1 := 50) (ls1 := [(0, .inr (.inr 150)), (1, .inl (x1)), (2, .inl (x2)), (3, .inl (x3))]) (st1 := [.inl (x3), .inl ((px_up (px_up (px_up s 150 0 0) 179 ((px_up s 150 0 0) 150 53).toNat x1) 180 ((px_up (px_up s 150 0 0) 179 ((px_up s 150 0 0) 150 53).toNat x1) 150 53).toNat x2) 150 53), .inr (.inr 181)]) (h1 := (px_G1, px_up (px_up (px_up s 150 0 0) 179 ((px_up s 150 0 0) 150 53).toNat x1) 180 ((px_up (px_up s 150 0 0) 179 ((px_up s 150 0 0) 150 53).toNat x1) 150 53).toNat x2)) rfl ?_
            by_cases hc8 : 0 ≤ ((px_up (px_up (px_up s 150 0 0) 179 ((px_up s 150 0 0) 150 53).toNat x1) 180 ((px_up (px_up s 150 0 0) 179 ((px_up s 150 0 0) 150 53).toNat x1) 150 53).toNat x2) 150 53) ∧ ((px_up (px_up (px_up s 150 0 0) 179 ((px_up s 150 0 0) 150 53).toNat x1) 180 ((px_up (px_up s 150 0 0) 179 ((px_up s 150 0 0) 150 53).toNat x1) 150 53).toNat x2) 150 53) < 12
            case neg => rw [if_neg hc8] at h; cases h
            rw [if_pos hc8] at h
            refine px_D_iast (k := 176) (n := 12) rfl rfl hc8 ?_
            refine px_D_st 8 (ip1 := 59) (ls1 := [(0, .inr (.inr 150)), (1, .inl (x1)), (2, .inl (x2)), (3, .inl (x3))]) (st1 := [.inl ((px_up (px_up (px_up (px_up (px_up s 150 0 0) 179 ((px_up s 150 0 0) 150 53).toNat x1) 180 ((px_up (px_up s 150 0 0) 179 ((px_up s 150 0 0) 150 53).toNat x1) 150 53).toNat x2) 181 ((px_up (px_up (px_up s 150 0 0) 179 ((px_up s 150 0 0) 150 53).toNat x1) 180 ((px_up (px_up s 150 0 0) 179 ((px_up s 150 0 0) 150 53).toNat x1) 150 53).toNat x2) 150 53).toNat x3) 150 53 (px_wr (((px_up (px_up (px_up (px_up s 150 0 0) 179 ((px_up s 150 0 0) 150 53).toNat x1) 180 ((px_up (px_up s 150 0 0) 179 ((px_up s 150 0 0) 150 53).toNat x1) 150 53).toNat x2) 181 ((px_up (px_up (px_up s 150 0 0) 179 ((px_up s 150 0 0) 150 53).toNat x1) 180 ((px_up (px_up s 150 0 0) 179 ((px_up s 150 0 0) 150 53).toNat x1) 150 53).toNat x2) 150 53).toNat x3) 150 53) + 1))) 150 53)]) (h1 := (px_G1, px_up (px_up (px_up (px_up (px_up s 150 0 0) 179 ((px_up s 150 0 0) 150 53).toNat x1) 180 ((px_up (px_up s 150 0 0) 179 ((px_up s 150 0 0) 150 53).toNat x1) 150 53).toNat x2) 181 ((px_up (px_up (px_up s 150 0 0) 179 ((px_up s 150 0 0) 150 53).toNat x1) 180 ((px_up (px_up s 150 0 0) 179 ((px_up s 150 0 0) 150 53).toNat x1) 150 53).toNat x2) 150 53).toNat x3) 150 53 (px_wr (((px_up (px_up (px_up (px_up s 150 0 0) 179 ((px_up s 150 0 0) 150 53).toNat x1) 180 ((px_up (px_up s 150 0 0) 179 ((px_up s 150 0 0) 150 53).toNat x1) 150 53).toNat x2) 181 ((px_up (px_up (px_up s 150 0 0) 179 ((px_up s 150 0 0) 150 53).toNat x1) 180 ((px_up (px_up s 150 0 0) 179 ((px_up s 150 0 0) 150 53).toNat x1) 150 53).toNat x2) 150 53).toNat x3) 150 53) + 1)))) rfl ?_
            cases h
            exact px_D_iret rfl rfl ⟨rfl, rfl⟩
          · have hc5 : ((px_up s 150 0 0) 150 53) = (12) := Decidable.of_not_not (of_decide_eq_false hc)
            rw [if_pos hc5] at h
            refine px_D_st 1 (ip1 := 32) (ls1 := [(0, .inr (.inr 150)), (1, .inl (x1)), (2, .inl (x2)), (3, .inl (x3))]) (st1 := [.inl ((-1))]) (h1 := (px_G1, px_up s 150 0 0)) rfl ?_
            cases h
            exact px_D_iret rfl rfl ⟨rfl, rfl⟩
  · have hc1 : (x1) = ((-1)) := Decidable.of_not_not (of_decide_eq_false hc)
    rw [if_pos hc1] at h
    refine px_D_st 4 (ip1 := 10) (ls1 := [(0, .inr (.inr 150)), (1, .inl (x1)), (2, .inl (x2)), (3, .inl (x3))]) (st1 := [.inl (0)]) (h1 := (px_G1, px_up (px_up s 150 0 0) 150 53 0)) rfl ?_
    cases h
    exact px_D_iret rfl rfl ⟨rfl, rfl⟩

def f_M_areAgainst (s : px_Z) (x1 : Int) (x2 : Int) : Option (Int) := if 0 ≤ (x1) ∧ (x1) < 12 then if 0 ≤ (x2) ∧ (x2) < 12 then if (s 179 x1.toNat) = (s 179 x2.toNat) then (if 0 ≤ (x1) ∧ (x1) < 12 then if 0 ≤ (x2) ∧ (x2) < 12 then if (s 180 x1.toNat) = (s 180 x2.toNat) then (if 0 ≤ (x1) ∧ (x1) < 12 then if 0 ≤ (x2) ∧ (x2) < 12 then if (s 181 x1.toNat) = (s 181 x2.toNat) then some 0 else some 1 else none else none) else (if 0 ≤ (x1) ∧ (x1) < 12 then if 0 ≤ (x2) ∧ (x2) < 12 then if (s 180 x2.toNat) ≤ (s 180 x1.toNat) then some 0 else (if 0 ≤ (x1) ∧ (x1) < 12 then if 0 ≤ (x2) ∧ (x2) < 12 then if (s 181 x1.toNat) ≤ (s 181 x2.toNat) then some 0 else some 1 else none else none) else none else none) else none else none) else some 0 else none else none
set_option maxHeartbeats 4000000 in
set_option maxRecDepth 100000 in
theorem c_M_areAgainst {sc : List Int} {d : Nat} {s : px_Z} {x1 : Int} {x2 : Int} {out : Int} (h : f_M_areAgainst s x1 x2 = some out) : px_D sc (d + 0) 267 0 [(0, .inr (.inr 150)), (1, .inl (x1)), (2, .inl (x2))] [] (px_G1, s) (px_Qp s out) := by
  unfold f_M_areAgainst at h
  refine px_D_st 3 (ip1 := 3) (ls1 := [(0, .inr (.inr 150)), (1, .inl (x1)), (2, .inl (x2))]) (st1 := [.inl (x1), .inr (.inr 179)]) (h1 := (px_G1, s)) rfl ?_
  by_cases hc1 : 0 ≤ (x1) ∧ (x1) < 12
  case neg => rw [if_neg hc1] at h; cases h
  rw [if_pos hc1] at h
  refine px_D_iald (k := 174) (n := 12) rfl rfl hc1 ?_
  refine px_D_st 3 (ip1 := 7) (ls1 := [(0, .inr (.inr 150)), (1, .inl (x1)), (2, .inl (x2))]) (st1 := [.inl (x2), .inr (.inr 179), .inl (s 179 x1.toNat)]) (h1 := (px_G1, s)) rfl ?_
  by_cases hc2 : 0 ≤ (x2) ∧ (x2) < 12
  case neg => rw [if_neg hc2] at h; cases h
  rw [if_pos hc2] at h
  refine px_D_iald (k := 174) (n := 12) rfl rfl hc2 ?_
  refine px_D_icmp rfl (fun hc => ?_) (fun hc => ?_)
  · have hc3 : (s 179 x1.toNat) = (s 179 x2.toNat) := of_decide_eq_true hc
    rw [if_pos hc3] at h
    refine px_D_st 3 (ip1 := 14) (ls1 := [(0, .inr (.inr 150)), (1, .inl (x1)), (2, .inl (x2))]) (st1 := [.inl (x1), .inr (.inr 180)]) (h1 := (px_G1, s)) rfl ?_
    by_cases hc4 : 0 ≤ (x1) ∧ (x1) < 12
    case neg => rw [if_neg hc4] at h; cases h
    rw [if_pos hc4] at h
    refine px_D_iald (k := 175) (n := 12) rfl rfl hc4 ?_
    refine px_D_st 3 (ip1 := 18) (ls1 := [(0, .inr (.inr 150)), (1, .inl (x1)), (2, .inl (x2))]) (st1 := [.inl (x2), .inr (.inr 180), .inl (s 180 x1.toNat)]) (h1 := (px_G1, s)) rfl ?_
    by_cases hc5 : 0 ≤ (x2) ∧ (x2) < 12
    case neg => rw [if_neg hc5] at h; cases h
    rw [if_pos hc5] at h
    refine px_D_iald (k := 175) (n := 12) rfl rfl hc5 ?_
    refine px_D_icmp rfl (fun hc => ?_) (fun hc => ?_)
    · have hc6 : ¬ ((s 180 x1.toNat) = (s 180 x2.toNat)) := of_decide_eq_true hc
      rw [if_neg hc6] at h
      refine px_D_st 3 (ip1 := 36) (ls1 := [(0, .inr (.inr 150)), (1, .inl (x1)), (2, .inl (x2))]) (st1 := [.inl (x1), .inr (.inr 180)]) (h1 := (px_G1, s)) rfl ?_
      by_cases hc7 : 0 ≤ (x1) ∧ (x1) < 12
      case neg => rw [if_neg hc7] at h; cases h
      rw [if_pos hc7] at h
      refine px_D_iald (k := 175) (n := 12) rfl rfl hc7 ?_
      refine px_D_st 3 (ip1 := 40) (ls1 := [(0, .inr (.inr 150)), (1, .inl (x1)), (2, .inl (x2))]) (st1 := [.inl (x2), .inr (.inr 180), .inl (s 180 x1.toNat)]) (h1 := (px_G1, s)) rfl ?_
      by_cases hc8 : 0 ≤ (x2) ∧ (x2) < 12
      case neg => rw [if_neg hc8] at h; cases h
      rw [if_pos hc8] at h
      refine px_D_iald (k := 175) (n := 12) rfl rfl hc8 ?_
      refine px_D_icmp rfl (fun hc => ?_) (fun hc => ?_)
      · have hc9 : (s 180 x2.toNat) ≤ (s 180 x1.toNat) := of_decide_eq_true hc
        rw [if_pos hc9] at h
        refine px_D_st 1 (ip1 := 54) (ls1 := [(0, .inr (.inr 150)), (1, .inl (x1)), (2, .inl (x2))]) (st1 := [.inl (0)]) (h1 := (px_G1, s)) rfl ?_
        cases h
        exact px_D_iret rfl rfl ⟨rfl, rfl⟩
      · have hc9 : ¬ ((s 180 x2.toNat) ≤ (s 180 x1.toNat)) := of_decide_eq_false hc
        rw [if_neg hc9] at h
        refine px_D_st 3 (ip1 := 45) (ls1 := [(0, .inr (.inr 150)), (1, .inl (x1)), (2, .inl (x2))]) (st1 := [.inl (x1), .inr (.inr 181)]) (h1 := (px_G1, s)) rfl ?_
        by_cases hc10 : 0 ≤ (x1) ∧ (x1) < 12
        case neg => rw [if_neg hc10] at h; cases h
        rw [if_pos hc10] at h
        refine px_D_iald (k := 176) (n := 12) rfl rfl hc10 ?_
        refine px_D_st 3 (ip1 := 49) (ls1 := [(0, .inr (.inr 150)), (1, .inl (x1)), (2, .inl (x2))]) (st1 := [.inl (x2), .inr (.inr 181), .inl (s 181 x1.toNat)]) (h1 := (px_G1, s)) rfl ?_
        by_cases hc11 : 0 ≤ (x2) ∧ (x2) < 12
        case neg => rw [if_neg hc11] at h; cases h
        rw [if_pos hc11] at h
        refine px_D_iald (k := 176) (n := 12) rfl rfl hc11 ?_
        refine px_D_icmp rfl (fun hc => ?_) (fun hc => ?_)
        · have hc12 : (s 181 x1.toNat) ≤ (s 181 x2.toNat) := of_decide_eq_true hc
          rw [if_pos hc12] at h
          refine px_D_st 1 (ip1 := 54) (ls1 := [(0, .inr (.inr 150)), (1, .inl (x1)), (2, .inl (x2))]) (st1 := [.inl (0)]) (h1 := (px_G1, s)) rfl ?_
          cases h
          exact px_D_iret rfl rfl ⟨rfl, rfl⟩
        · have hc12 : ¬ ((s 181 x1.toNat) ≤ (s 181 x2.toNat)) := of_decide_eq_false hc
          rw [if_neg hc12] at h
          refine px_D_st 2 (ip1 := 54) (ls1 := [(0, .inr (.inr 150)), (1, .inl (x1)), (2, .inl (x2))]) (st1 := [.inl (1)]) (h1 := (px_G1, s)) rfl ?_
          cases h
          exact px_D_iret rfl rfl ⟨rfl, rfl⟩
    · have hc6 : (s 180 x1.toNat) = (s 180 x2.toNat) := Decidable.of_not_not (of_decide_eq_false hc)
      rw [if_pos hc6] at h
      refine px_D_st 3 (ip1 := 23) (ls1 := [(0, .inr (.inr 150)), (1, .inl (x1)), (2, .inl (x2))]) (st1 := [.inl (x1), .inr (.inr 181)]) (h1 := (px_G1, s)) rfl ?_
      by_cases hc13 : 0 ≤ (x1) ∧ (x1) < 12
      case neg => rw [if_neg hc13] at h; cases h
      rw [if_pos hc13] at h
      refine px_D_iald (k := 176) (n := 12) rfl rfl hc13 ?_
      refine px_D_st 3 (ip1 := 27) (ls1 := [(0, .inr (.inr 150)), (1, .inl (x1)), (2, .inl (x2))]) (st1 := [.inl (x2), .inr (.inr 181), .inl (s 181 x1.toNat)]) (h1 := (px_G1, s)) rfl ?_
      by_cases hc14 : 0 ≤ (x2) ∧ (x2) < 12
      case neg => rw [if_neg hc14] at h; cases h
      rw [if_pos hc14] at h
      refine px_D_iald (k := 176) (n := 12) rfl rfl hc14 ?_
      refine px_D_icmp rfl (fun hc => ?_) (fun hc => ?_)
      · have hc15 : (s 181 x1.toNat) = (s 181 x2.toNat) := of_decide_eq_true hc
        rw [if_pos hc15] at h
        refine px_D_st 1 (ip1 := 32) (ls1 := [(0, .inr (.inr 150)), (1, .inl (x1)), (2, .inl (x2))]) (st1 := [.inl (0)]) (h1 := (px_G1, s)) rfl ?_
        cases h
        exact px_D_iret rfl rfl ⟨rfl, rfl⟩
      · have hc15 : ¬ ((s 181 x1.toNat) = (s 181 x2.toNat)) := of_decide_eq_false hc
        rw [if_neg hc15] at h
        refine px_D_st 2 (ip1 := 32) (ls1 := [(0, .inr (.inr 150)), (1, .inl (x1)), (2, .inl (x2))]) (st1 := [.inl (1)]) (h1 := (px_G1, s)) rfl ?_
        cases h
        exact px_D_iret rfl rfl ⟨rfl, rfl⟩
  · have hc3 : ¬ ((s 179 x1.toNat) = (s 179 x2.toNat)) := of_decide_eq_false hc
    rw [if_neg hc3] at h
    refine px_D_st 1 (ip1 := 10) (ls1 := [(0, .inr (.inr 150)), (1, .inl (x1)), (2, .inl (x2))]) (st1 := [.inl (0)]) (h1 := (px_G1, s)) rfl ?_
    cases h
    exact px_D_iret rfl rfl ⟨rfl, rfl⟩

def l_M_wrong_44 (k61 : px_Z → Int → Int → Option (Int × px_Z)) : Nat → px_Z → Int → Int → Int → Int → Option (Int × px_Z)
  | 0, _, _, _, _, _ => none
  | n + 1, s, x1, x2, x3, x4 => if (s 150 53) ≤ (x4) then k61 s x1 x2 else (f_M_areAgainst s x2 x4).bind (fun q6 => if (q6) = (0) then l_M_wrong_44 k61 n s x1 x2 x3 (px_wr (x4 + 1)) else l_M_wrong_44 k61 n s (px_or (x1) ((px_shl (1) (x3)))) x2 x3 (px_wr (x4 + 1)))
set_option maxHeartbeats 4000000 in
set_option maxRecDepth 100000 in
theorem cl_M_wrong_44 {sc : List Int} {d : Nat} {k61 : px_Z → Int → Int → Option (Int × px_Z)}  (hk61 : ∀ (s : px_Z) (y1 : Int) (y2 : Int) (out : Int × px_Z), k61 s y1 y2 = some out → px_D sc (d + 1) 268 61 [(0, .inr (.inr 150)), (1, .inl (y1)), (2, .inl (y2))] [] (px_G1, s) (px_Qi out)) : ∀ (n : Nat) (s : px_Z) (x1 : Int) (x2 : Int) (x3 : Int) (x4 : Int) (out : Int × px_Z), l_M_wrong_44 k61 n s x1 x2 x3 x4 = some out → px_D sc (d + 1) 268 44 [(0, .inr (.inr 150)), (1, .inl (x1)), (2, .inl (x2)), (3, .inl (x3)), (4, .inl (x4))] [] (px_G1, s) (px_Qi out) := by
  intro n
  induction n with
  | zero => intro s x1 x2 x3 x4 out h; cases h
  | succ n ih =>
    intro s x1 x2 x3 x4 out h
    rw [l_M_wrong_44] at h
    refine px_D_st 3 (ip1 := 47) (ls1 := [(0, .inr (.inr 150)), (1, .inl (x1)), (2, .inl (x2)), (3, .inl (x3)), (4, .inl (x4))]) (st1 := [.inl (s 150 53), .inl (x4)]) (h1 := (px_G1, s)) rfl ?_
    refine px_D_icmp rfl (fun hc => ?_) (fun hc => ?_)
    · have hc5 : (s 150 53) ≤ (x4) := of_decide_eq_true hc
      rw [if_pos hc5] at h
      refine px_D_ls [(0, .inr (.inr 150)), (1, .inl (x1)), (2, .inl (x2))] rfl rfl (List.forall_mem_cons.mpr ⟨rfl, List.forall_mem_cons.mpr ⟨rfl, List.forall_mem_cons.mpr ⟨rfl, fun _ h => absurd h List.not_mem_nil⟩⟩⟩) ?_
      exact hk61 _ _ _ _ h
    · have hc5 : ¬ ((s 150 53) ≤ (x4)) := of_decide_eq_false hc
      rw [if_neg hc5] at h
      refine px_D_st 3 (ip1 := 51) (ls1 := [(0, .inr (.inr 150)), (1, .inl (x1)), (2, .inl (x2)), (3, .inl (x3)), (4, .inl (x4))]) (st1 := [.inl (x4), .inl (x2), .inr (.inr 150)]) (h1 := (px_G1, s)) rfl ?_
      refine px_D_call (as := [.inr (.inr 150), .inl (x2), .inl (x4)]) (rest := []) rfl rfl rfl rfl ?_
      obtain ⟨q6, hq6, h⟩ := Option.bind_eq_some_iff.mp h
      refine px_D_mono (c_M_areAgainst (d := d + 0) hq6) ?_
      rintro _ _ ⟨rfl, rfl⟩
      show px_D sc (d + 1) 268 52 [(0, .inr (.inr 150)), (1, .inl (x1)), (2, .inl (x2)), (3, .inl (x3)), (4, .inl (x4))] [.inl (q6)] (px_G1, s) _
      refine px_D_ifc rfl (fun hc => ?_) (fun hc => ?_)
      · have hc7 : (q6) = (0) := of_decide_eq_true hc
        rw [if_pos hc7] at h
        refine px_D_st 2 (ip1 := 44) (ls1 := [(4, .inl (px_wr (x4 + 1))), (0, .inr (.inr 150)), (1, .inl (x1)), (2, .inl (x2)), (3, .inl (x3))]) (st1 := []) (h1 := (px_G1, s)) rfl ?_
        refine px_D_ls [(0, .inr (.inr 150)), (1, .inl (x1)), (2, .inl (x2)), (3, .inl (x3)), (4, .inl (px_wr (x4 + 1)))] rfl rfl (List.forall_mem_cons.mpr ⟨rfl, List.forall_mem_cons.mpr ⟨rfl, List.forall_mem_cons.mpr ⟨rfl, List.forall_mem_cons.mpr ⟨rfl, List.forall_mem_cons.mpr ⟨rfl, fun _ h => absurd h List.not_mem_nil⟩⟩⟩⟩⟩) ?_
        exact ih _ _ _ _ _ _ h
      · have hc7 : ¬ ((q6) = (0)) := of_decide_eq_false hc
        rw [if_neg hc7] at h
        refine px_D_st 8 (ip1 := 44) (ls1 := [(4, .inl (px_wr (x4 + 1))), (1, .inl (px_or (x1) ((px_shl (1) (x3))))), (0, .inr (.inr 150)), (2, .inl (x2)), (3, .inl (x3))]) (st1 := []) (h1 := (px_G1, s)) rfl ?_
        refine px_D_ls [(0, .inr (.inr 150)), (1, .inl (px_or (x1) ((px_shl (1) (x3))))), (2, .inl (x2)), (3, .inl (x3)), (4, .inl (px_wr (x4 + 1)))] rfl rfl (List.forall_mem_cons.mpr ⟨rfl, List.forall_mem_cons.mpr ⟨rfl, List.forall_mem_cons.mpr ⟨rfl, List.forall_mem_cons.mpr ⟨rfl, List.forall_mem_cons.mpr ⟨rfl, fun _ h => absurd h List.not_mem_nil⟩⟩⟩⟩⟩) ?_
        exact ih _ _ _ _ _ _ h
def l_M_wrong_7  : Nat → px_Z → Int → Int → Option (Int × px_Z)
  | 0, _, _, _ => none
  | n + 1, s, x1, x2 => if (s 150 53) ≤ (x2) then some (x1, s) else (if 0 ≤ (x2) ∧ (x2) < 12 then if 0 ≤ (x2) ∧ (x2) < 12 then if (s 151 0) < (s 180 x2.toNat) then l_M_wrong_44 (fun s x1 x2 => l_M_wrong_7  n s x1 (px_wr (x2 + 1))) px_big s x1 x2 (s 179 x2.toNat) 0 else (if 0 ≤ (x2) ∧ (x2) < 12 then if 0 ≤ (px_wr (8 + (s 179 x2.toNat))) ∧ (px_wr (8 + (s 179 x2.toNat))) < 40 then if (s 181 x2.toNat) ≤ (s 151 (px_wr (8 + (s 179 x2.toNat))).toNat) then l_M_wrong_44 (fun s x1 x2 => l_M_wrong_7  n s x1 (px_wr (x2 + 1))) px_big s x1 x2 (s 179 x2.toNat) 0 else l_M_wrong_44 (fun s x1 x2 => l_M_wrong_7  n s x1 (px_wr (x2 + 1))) px_big s (px_or (x1) ((px_shl (1) ((s 179 x2.toNat))))) x2 (s 179 x2.toNat) 0 else none else none) else none else none)
set_option maxHeartbeats 4000000 in
set_option maxRecDepth 100000 in
theorem cl_M_wrong_7 {sc : List Int} {d : Nat}  : ∀ (n : Nat) (s : px_Z) (x1 : Int) (x2 : Int) (out : Int × px_Z), l_M_wrong_7  n s x1 x2 = some out → px_D sc (d + 1) 268 7 [(0, .inr (.inr 150)), (1, .inl (x1)), (2, .inl (x2))] [] (px_G1, s) (px_Qi out) := by
  intro n
  induction n with
  | zero => intro s x1 x2 out h; cases h
  | succ n ih =>
    intro s x1 x2 out h
    rw [l_M_wrong_7] at h
    refine px_D_st 3 (ip1 := 10) (ls1 := [(0, .inr (.inr 150)), (1, .inl (x1)), (2, .inl (x2))]) (st1 := [.inl (s 150 53), .inl (x2)]) (h1 := (px_G1, s)) rfl ?_
    refine px_D_icmp rfl (fun hc => ?_) (fun hc => ?_)
    · have hc1 : (s 150 53) ≤ (x2) := of_decide_eq_true hc
      rw [if_pos hc1] at h
      refine px_D_st 1 (ip1 := 64) (ls1 := [(0, .inr (.inr 150)), (1, .inl (x1)), (2, .inl (x2))]) (st1 := [.inl (x1)]) (h1 := (px_G1, s)) rfl ?_
      cases h
      exact px_D_iret rfl rfl ⟨rfl, rfl⟩
    · have hc1 : ¬ ((s 150 53) ≤ (x2)) := of_decide_eq_false hc
      rw [if_neg hc1] at h
      refine px_D_st 3 (ip1 := 14) (ls1 := [(0, .inr (.inr 150)), (1, .inl (x1)), (2, .inl (x2))]) (st1 := [.inl (x2), .inr (.inr 179)]) (h1 := (px_G1, s)) rfl ?_
      by_cases hc2 : 0 ≤ (x2) ∧ (x2) < 12
      case neg => rw [if_neg hc2] at h; cases h
      rw [if_pos hc2] at h
      refine px_D_iald (k := 174) (n := 12) rfl rfl hc2 ?_
      refine px_D_st 4 (ip1 := 19) (ls1 := [(3, .inl (s 179 x2.toNat)), (0, .inr (.inr 150)), (1, .inl (x1)), (2, .inl (x2))]) (st1 := [.inl (x2), .inr (.inr 180)]) (h1 := (px_G1, s)) rfl ?_
      by_cases hc3 : 0 ≤ (x2) ∧ (x2) < 12
      case neg => rw [if_neg hc3] at h; cases h
      rw [if_pos hc3] at h
      refine px_D_iald (k := 175) (n := 12) rfl rfl hc3 ?_
      refine px_D_st 4 (ip1 := 24) (ls1 := [(3, .inl (s 179 x2.toNat)), (0, .inr (.inr 150)), (1, .inl (x1)), (2, .inl (x2))]) (st1 := [.inl (s 151 0), .inl (s 180 x2.toNat)]) (h1 := (px_G1, s)) rfl ?_
      refine px_D_icmp rfl (fun hc => ?_) (fun hc => ?_)
      · have hc4 : (s 151 0) < (s 180 x2.toNat) := of_decide_eq_true hc
        rw [if_pos hc4] at h
        refine px_D_st 2 (ip1 := 44) (ls1 := [(4, .inl (0)), (3, .inl (s 179 x2.toNat)), (0, .inr (.inr 150)), (1, .inl (x1)), (2, .inl (x2))]) (st1 := []) (h1 := (px_G1, s)) rfl ?_
        refine px_D_ls [(0, .inr (.inr 150)), (1, .inl (x1)), (2, .inl (x2)), (3, .inl (s 179 x2.toNat)), (4, .inl (0))] rfl rfl (List.forall_mem_cons.mpr ⟨rfl, List.forall_mem_cons.mpr ⟨rfl, List.forall_mem_cons.mpr ⟨rfl, List.forall_mem_cons.mpr ⟨rfl, List.forall_mem_cons.mpr ⟨rfl, fun _ h => absurd h List.not_mem_nil⟩⟩⟩⟩⟩) ?_
        refine cl_M_wrong_44 ?_ px_big _ _ _ _ _ _ h
        · intro s x1 x2 out h
          refine px_D_st 2 (ip1 := 7) (ls1 := [(2, .inl (px_wr (x2 + 1))), (0, .inr (.inr 150)), (1, .inl (x1))]) (st1 := []) (h1 := (px_G1, s)) rfl ?_
          refine px_D_ls [(0, .inr (.inr 150)), (1, .inl (x1)), (2, .inl (px_wr (x2 + 1)))] rfl rfl (List.forall_mem_cons.mpr ⟨rfl, List.forall_mem_cons.mpr ⟨rfl, List.forall_mem_cons.mpr ⟨rfl, fun _ h => absurd h List.not_mem_nil⟩⟩⟩) ?_
          exact ih _ _ _ _ h
      · have hc4 : ¬ ((s 151 0) < (s 180 x2.toNat)) := of_decide_eq_false hc
        rw [if_neg hc4] at h
        refine px_D_st 3 (ip1 := 28) (ls1 := [(3, .inl (s 179 x2.toNat)), (0, .inr (.inr 150)), (1, .inl (x1)), (2, .inl (x2))]) (st1 := [.inl (x2), .inr (.inr 181)]) (h1 := (px_G1, s)) rfl ?_
        by_cases hc8 : 0 ≤ (x2) ∧ (x2) < 12
        case neg => rw [if_neg hc8] at h; cases h
        rw [if_pos hc8] at h
        refine px_D_iald (k := 176) (n := 12) rfl rfl hc8 ?_
        refine px_D_st 5 (ip1 := 34) (ls1 := [(3, .inl (s 179 x2.toNat)), (0, .inr (.inr 150)), (1, .inl (x1)), (2, .inl (x2))]) (st1 := [.inl (px_wr (8 + (s 179 x2.toNat))), .inr (.inr 151), .inl (s 181 x2.toNat)]) (h1 := (px_G1, s)) rfl ?_
        by_cases hc9 : 0 ≤ (px_wr (8 + (s 179 x2.toNat))) ∧ (px_wr (8 + (s 179 x2.toNat))) < 40
        case neg => rw [if_neg hc9] at h; cases h
        rw [if_pos hc9] at h
        refine px_D_iald (k := 146) (n := 40) rfl rfl hc9 ?_
        refine px_D_icmp rfl (fun hc => ?_) (fun hc => ?_)
        · have hc10 : (s 181 x2.toNat) ≤ (s 151 (px_wr (8 + (s 179 x2.toNat))).toNat) := of_decide_eq_true hc
          rw [if_pos hc10] at h
          refine px_D_st 2 (ip1 := 44) (ls1 := [(4, .inl (0)), (3, .inl (s 179 x2.toNat)), (0, .inr (.inr 150)), (1, .inl (x1)), (2, .inl (x2))]) (st1 := []) (h1 := (px_G1, s)) rfl ?_
          refine px_D_ls [(0, .inr (.inr 150)), (1, .inl (x1)), (2, .inl (x2)), (3, .inl (s 179 x2.toNat)), (4, .inl (0))] rfl rfl (List.forall_mem_cons.mpr ⟨rfl, List.forall_mem_cons.mpr ⟨rfl, List.forall_mem_cons.mpr ⟨rfl, List.forall_mem_cons.mpr ⟨rfl, List.forall_mem_cons.mpr ⟨rfl, fun _ h => absurd h List.not_mem_nil⟩⟩⟩⟩⟩) ?_
          refine cl_M_wrong_44 ?_ px_big _ _ _ _ _ _ h
          · intro s x1 x2 out h
            refine px_D_st 2 (ip1 := 7) (ls1 := [(2, .inl (px_wr (x2 + 1))), (0, .inr (.inr 150)), (1, .inl (x1))]) (st1 := []) (h1 := (px_G1, s)) rfl ?_
            refine px_D_ls [(0, .inr (.inr 150)), (1, .inl (x1)), (2, .inl (px_wr (x2 + 1)))] rfl rfl (List.forall_mem_cons.mpr ⟨rfl, List.forall_mem_cons.mpr ⟨rfl, List.forall_mem_cons.mpr ⟨rfl, fun _ h => absurd h List.not_mem_nil⟩⟩⟩) ?_
            exact ih _ _ _ _ h
        · have hc10 : ¬ ((s 181 x2.toNat) ≤ (s 151 (px_wr (8 + (s 179 x2.toNat))).toNat)) := of_decide_eq_false hc
          rw [if_neg hc10] at h
          refine px_D_st 8 (ip1 := 44) (ls1 := [(4, .inl (0)), (1, .inl (px_or (x1) ((px_shl (1) ((s 179 x2.toNat)))))), (3, .inl (s 179 x2.toNat)), (0, .inr (.inr 150)), (2, .inl (x2))]) (st1 := []) (h1 := (px_G1, s)) rfl ?_
          refine px_D_ls [(0, .inr (.inr 150)), (1, .inl (px_or (x1) ((px_shl (1) ((s 179 x2.toNat)))))), (2, .inl (x2)), (3, .inl (s 179 x2.toNat)), (4, .inl (0))] rfl rfl (List.forall_mem_cons.mpr ⟨rfl, List.forall_mem_cons.mpr ⟨rfl, List.forall_mem_cons.mpr ⟨rfl, List.forall_mem_cons.mpr ⟨rfl, List.forall_mem_cons.mpr ⟨rfl, fun _ h => absurd h List.not_mem_nil⟩⟩⟩⟩⟩) ?_
          refine cl_M_wrong_44 ?_ px_big _ _ _ _ _ _ h
          · intro s x1 x2 out h
            refine px_D_st 2 (ip1 := 7) (ls1 := [(2, .inl (px_wr (x2 + 1))), (0, .inr (.inr 150)), (1, .inl (x1))]) (st1 := []) (h1 := (px_G1, s)) rfl ?_
            refine px_D_ls [(0, .inr (.inr 150)), (1, .inl (x1)), (2, .inl (px_wr (x2 + 1)))] rfl rfl (List.forall_mem_cons.mpr ⟨rfl, List.forall_mem_cons.mpr ⟨rfl, List.forall_mem_cons.mpr ⟨rfl, fun _ h => absurd h List.not_mem_nil⟩⟩⟩) ?_
            exact ih _ _ _ _ h
def f_M_wrong (s : px_Z) : Option (Int × px_Z) := l_M_wrong_7  px_big (px_up s 150 0 0) 0 0
set_option maxHeartbeats 4000000 in
set_option maxRecDepth 100000 in
theorem c_M_wrong {sc : List Int} {d : Nat} {s : px_Z} {out : Int × px_Z} (h : f_M_wrong s  = some out) : px_D sc (d + 1) 268 0 [(0, .inr (.inr 150))] [] (px_G1, s) (px_Qi out) := by
  unfold f_M_wrong at h
  refine px_D_st 7 (ip1 := 7) (ls1 := [(2, .inl (0)), (1, .inl (0)), (0, .inr (.inr 150))]) (st1 := []) (h1 := (px_G1, px_up s 150 0 0)) rfl ?_
  refine px_D_ls [(0, .inr (.inr 150)), (1, .inl (0)), (2, .inl (0))] rfl rfl (List.forall_mem_cons.mpr ⟨rfl, List.forall_mem_cons.mpr ⟨rfl, List.forall_mem_cons.mpr ⟨rfl, fun _ h => absurd h List.not_mem_nil⟩⟩⟩) ?_
  refine cl_M_wrong_7  px_big _ _ _ _ h

def l_M_lasts_7 (k23 : px_Z → Int → Option (Int × px_Z)) : Nat → px_Z → Int → Option (Int × px_Z)
  | 0, _, _ => none
  | n + 1, s, x1 => if (s 151 4) ≤ (0) then k23 s x1 else (if (60) < (x1) then k23 s x1 else (f_M_goesBy s ).bind (fun q4 => l_M_lasts_7 k23 n q4.2 (px_wr (x1 + 1))))
set_option maxHeartbeats 4000000 in
set_option maxRecDepth 100000 in
theorem cl_M_lasts_7 {sc : List Int} {d : Nat} {k23 : px_Z → Int → Option (Int × px_Z)}  (hk23 : ∀ (s : px_Z) (y1 : Int) (out : Int × px_Z), k23 s y1 = some out → px_D sc (d + 6) 269 23 [(0, .inr (.inr 150)), (1, .inl (y1))] [] (px_G1, s) (px_Qi out)) : ∀ (n : Nat) (s : px_Z) (x1 : Int) (out : Int × px_Z), l_M_lasts_7 k23 n s x1 = some out → px_D sc (d + 6) 269 7 [(0, .inr (.inr 150)), (1, .inl (x1))] [] (px_G1, s) (px_Qi out) := by
  intro n
  induction n with
  | zero => intro s x1 out h; cases h
  | succ n ih =>
    intro s x1 out h
    rw [l_M_lasts_7] at h
    refine px_D_st 4 (ip1 := 11) (ls1 := [(0, .inr (.inr 150)), (1, .inl (x1))]) (st1 := [.inl (s 151 4)]) (h1 := (px_G1, s)) rfl ?_
    refine px_D_ifc rfl (fun hc => ?_) (fun hc => ?_)
    · have hc2 : (s 151 4) ≤ (0) := of_decide_eq_true hc
      rw [if_pos hc2] at h
      refine px_D_ls [(0, .inr (.inr 150)), (1, .inl (x1))] rfl rfl (List.forall_mem_cons.mpr ⟨rfl, List.forall_mem_cons.mpr ⟨rfl, fun _ h => absurd h List.not_mem_nil⟩⟩) ?_
      exact hk23 _ _ _ h
    · have hc2 : ¬ ((s 151 4) ≤ (0)) := of_decide_eq_false hc
      rw [if_neg hc2] at h
      refine px_D_st 2 (ip1 := 14) (ls1 := [(0, .inr (.inr 150)), (1, .inl (x1))]) (st1 := [.inl (60), .inl (x1)]) (h1 := (px_G1, s)) rfl ?_
      refine px_D_icmp rfl (fun hc => ?_) (fun hc => ?_)
      · have hc3 : (60) < (x1) := of_decide_eq_true hc
        rw [if_pos hc3] at h
        refine px_D_ls [(0, .inr (.inr 150)), (1, .inl (x1))] rfl rfl (List.forall_mem_cons.mpr ⟨rfl, List.forall_mem_cons.mpr ⟨rfl, fun _ h => absurd h List.not_mem_nil⟩⟩) ?_
        exact hk23 _ _ _ h
      · have hc3 : ¬ ((60) < (x1)) := of_decide_eq_false hc
        rw [if_neg hc3] at h
        refine px_D_st 1 (ip1 := 16) (ls1 := [(0, .inr (.inr 150)), (1, .inl (x1))]) (st1 := [.inr (.inr 150)]) (h1 := (px_G1, s)) rfl ?_
        refine px_D_call (as := [.inr (.inr 150)]) (rest := []) rfl rfl rfl rfl ?_
        obtain ⟨q4, hq4, h⟩ := Option.bind_eq_some_iff.mp h
        refine px_D_mono (c_M_goesBy (d := d + 0) hq4) ?_
        rintro _ _ ⟨rfl, rfl⟩
        show px_D sc (d + 6) 269 17 [(0, .inr (.inr 150)), (1, .inl (x1))] [.inl (q4.1)] (px_G1, q4.2) _
        refine px_D_st 6 (ip1 := 7) (ls1 := [(1, .inl (px_wr (x1 + 1))), (0, .inr (.inr 150))]) (st1 := []) (h1 := (px_G1, q4.2)) rfl ?_
        refine px_D_ls [(0, .inr (.inr 150)), (1, .inl (px_wr (x1 + 1)))] rfl rfl (List.forall_mem_cons.mpr ⟨rfl, List.forall_mem_cons.mpr ⟨rfl, fun _ h => absurd h List.not_mem_nil⟩⟩) ?_
        exact ih _ _ _ h
def f_M_lasts (s : px_Z) : Option (Int × px_Z) := (f_M_thinks (px_up s 150 0 0) ).bind (fun q1 => l_M_lasts_7 (fun s x1 => (f_M_endsThought s ).bind (fun q5 => if (x1) ≤ (60) then some (x1, q5) else some (((-1), q5)))) px_big q1 0)
set_option maxHeartbeats 4000000 in
set_option maxRecDepth 100000 in
theorem c_M_lasts {sc : List Int} {d : Nat} {s : px_Z} {out : Int × px_Z} (h : f_M_lasts s  = some out) : px_D sc (d + 6) 269 0 [(0, .inr (.inr 150))] [] (px_G1, s) (px_Qi out) := by
  unfold f_M_lasts at h
  refine px_D_st 4 (ip1 := 4) (ls1 := [(0, .inr (.inr 150))]) (st1 := [.inr (.inr 150)]) (h1 := (px_G1, px_up s 150 0 0)) rfl ?_
  refine px_D_call (as := [.inr (.inr 150)]) (rest := []) rfl rfl rfl rfl ?_
  obtain ⟨q1, hq1, h⟩ := Option.bind_eq_some_iff.mp h
  refine px_D_mono (c_M_thinks (d := d + 5) hq1) ?_
  rintro _ _ ⟨rfl, rfl⟩
  show px_D sc (d + 6) 269 5 [(0, .inr (.inr 150))] [] (px_G1, q1) _
  refine px_D_st 2 (ip1 := 7) (ls1 := [(1, .inl (0)), (0, .inr (.inr 150))]) (st1 := []) (h1 := (px_G1, q1)) rfl ?_
  refine px_D_ls [(0, .inr (.inr 150)), (1, .inl (0))] rfl rfl (List.forall_mem_cons.mpr ⟨rfl, List.forall_mem_cons.mpr ⟨rfl, fun _ h => absurd h List.not_mem_nil⟩⟩) ?_
  refine cl_M_lasts_7 ?_ px_big _ _ _ h
  · intro s x1 out h
    refine px_D_st 1 (ip1 := 24) (ls1 := [(0, .inr (.inr 150)), (1, .inl (x1))]) (st1 := [.inr (.inr 150)]) (h1 := (px_G1, s)) rfl ?_
    refine px_D_call (as := [.inr (.inr 150)]) (rest := []) rfl rfl rfl rfl ?_
    obtain ⟨q5, hq5, h⟩ := Option.bind_eq_some_iff.mp h
    refine px_D_mono (c_M_endsThought (d := d + 5) hq5) ?_
    rintro _ _ ⟨rfl, rfl⟩
    show px_D sc (d + 6) 269 25 [(0, .inr (.inr 150)), (1, .inl (x1))] [] (px_G1, q5) _
    refine px_D_st 2 (ip1 := 27) (ls1 := [(0, .inr (.inr 150)), (1, .inl (x1))]) (st1 := [.inl (60), .inl (x1)]) (h1 := (px_G1, q5)) rfl ?_
    refine px_D_icmp rfl (fun hc => ?_) (fun hc => ?_)
    · have hc6 : (x1) ≤ (60) := of_decide_eq_true hc
      rw [if_pos hc6] at h
      refine px_D_st 1 (ip1 := 31) (ls1 := [(0, .inr (.inr 150)), (1, .inl (x1))]) (st1 := [.inl (x1)]) (h1 := (px_G1, q5)) rfl ?_
      cases h
      exact px_D_iret rfl rfl ⟨rfl, rfl⟩
    · have hc6 : ¬ ((x1) ≤ (60)) := of_decide_eq_false hc
      rw [if_neg hc6] at h
      refine px_D_st 2 (ip1 := 31) (ls1 := [(0, .inr (.inr 150)), (1, .inl (x1))]) (st1 := [.inl ((-1))]) (h1 := (px_G1, q5)) rfl ?_
      cases h
      exact px_D_iret rfl rfl ⟨rfl, rfl⟩

def l_M_commonOf_4 (s : px_Z)  : Nat → Int → Int → Option (Int)
  | 0, _, _ => none
  | n + 1, x5, x7 => if ((if (x7) < (0) then -1 else if (x7) = (0) then 0 else 1)) = (0) then some x5 else (if (x7) = 0 then none else l_M_commonOf_4 s  n x7 (x5.tmod x7))
set_option maxHeartbeats 4000000 in
set_option maxRecDepth 100000 in
theorem cl_M_commonOf_4 {sc : List Int} {d : Nat} {s : px_Z}  : ∀ (n : Nat) (x5 : Int) (x7 : Int) (out : Int), l_M_commonOf_4 s  n x5 x7 = some out → px_D sc (d + 0) 270 4 [(5, .inr (.inl (x5))), (7, .inr (.inl (x7)))] [] (px_G1, s) (px_Qlp s out) := by
  intro n
  induction n with
  | zero => intro x5 x7 out h; cases h
  | succ n ih =>
    intro x5 x7 out h
    rw [l_M_commonOf_4] at h
    refine px_D_st 3 (ip1 := 7) (ls1 := [(5, .inr (.inl (x5))), (7, .inr (.inl (x7)))]) (st1 := [.inl ((if (x7) < (0) then -1 else if (x7) = (0) then 0 else 1))]) (h1 := (px_G1, s)) rfl ?_
    refine px_D_ifc rfl (fun hc => ?_) (fun hc => ?_)
    · have hc1 : ((if (x7) < (0) then -1 else if (x7) = (0) then 0 else 1)) = (0) := of_decide_eq_true hc
      rw [if_pos hc1] at h
      refine px_D_st 1 (ip1 := 18) (ls1 := [(5, .inr (.inl (x5))), (7, .inr (.inl (x7)))]) (st1 := [.inr (.inl (x5))]) (h1 := (px_G1, s)) rfl ?_
      cases h
      exact px_D_lret rfl ⟨rfl, rfl⟩
    · have hc1 : ¬ (((if (x7) < (0) then -1 else if (x7) = (0) then 0 else 1)) = (0)) := of_decide_eq_false hc
      rw [if_neg hc1] at h
      refine px_D_st 2 (ip1 := 10) (ls1 := [(5, .inr (.inl (x5))), (7, .inr (.inl (x7)))]) (st1 := [.inr (.inl (x7)), .inr (.inl (x5))]) (h1 := (px_G1, s)) rfl ?_
      by_cases hc2 : (x7) = 0
      · rw [if_pos hc2] at h; cases h
      rw [if_neg hc2] at h
      refine px_D_lrem rfl hc2 ?_
      refine px_D_st 6 (ip1 := 4) (ls1 := [(7, .inr (.inl (x5.tmod x7))), (5, .inr (.inl (x7))), (9, .inr (.inl (x5.tmod x7)))]) (st1 := []) (h1 := (px_G1, s)) rfl ?_
      refine px_D_ls [(5, .inr (.inl (x7))), (7, .inr (.inl (x5.tmod x7)))] rfl rfl (List.forall_mem_cons.mpr ⟨rfl, List.forall_mem_cons.mpr ⟨rfl, fun _ h => absurd h List.not_mem_nil⟩⟩) ?_
      exact ih _ _ _ h
def f_M_commonOf (s : px_Z) (x1 : Int) (x3 : Int) : Option (Int) := l_M_commonOf_4 s  px_big x1 x3
set_option maxHeartbeats 4000000 in
set_option maxRecDepth 100000 in
theorem c_M_commonOf {sc : List Int} {d : Nat} {s : px_Z} {x1 : Int} {x3 : Int} {out : Int} (h : f_M_commonOf s x1 x3 = some out) : px_D sc (d + 0) 270 0 [(0, .inr (.inr 150)), (1, .inr (.inl (x1))), (3, .inr (.inl (x3)))] [] (px_G1, s) (px_Qlp s out) := by
  unfold f_M_commonOf at h
  refine px_D_st 4 (ip1 := 4) (ls1 := [(7, .inr (.inl (x3))), (5, .inr (.inl (x1))), (0, .inr (.inr 150)), (1, .inr (.inl (x1))), (3, .inr (.inl (x3)))]) (st1 := []) (h1 := (px_G1, s)) rfl ?_
  refine px_D_ls [(5, .inr (.inl (x1))), (7, .inr (.inl (x3)))] rfl rfl (List.forall_mem_cons.mpr ⟨rfl, List.forall_mem_cons.mpr ⟨rfl, fun _ h => absurd h List.not_mem_nil⟩⟩) ?_
  refine cl_M_commonOf_4  px_big _ _ _ h

def l_M_partsOf_11 (s : px_Z) (k34 : Int → Int → Int → Int → Int → Int → Option (Int)) : Nat → Int → Int → Int → Int → Int → Int → Int → Option (Int)
  | 0, _, _, _, _, _, _, _ => none
  | n + 1, x1, x2, x3, x4, x6, x7, x9 => if (px_wr (x2 - 1)) ≤ (x9) then k34 x1 x2 x3 x4 x6 x7 else (if (px_wr ((px_wr (x2 - 1)) - x6)) ≤ (x9) then l_M_partsOf_11 s k34 n x1 x2 x3 x4 x6 (px_wl (x7 * (px_wr (10 - x3)))) (px_wr (x9 + 1)) else l_M_partsOf_11 s k34 n x1 x2 x3 x4 x6 (px_wl (x7 * x3)) (px_wr (x9 + 1)))
set_option maxHeartbeats 4000000 in
set_option maxRecDepth 100000 in
theorem cl_M_partsOf_11 {sc : List Int} {d : Nat} {s : px_Z} {k34 : Int → Int → Int → Int → Int → Int → Option (Int)}  (hk34 : ∀ (y1 : Int) (y2 : Int) (y3 : Int) (y4 : Int) (y6 : Int) (y7 : Int) (out : Int), k34 y1 y2 y3 y4 y6 y7 = some out → px_D sc (d + 0) 271 34 [(1, .inl (y1)), (2, .inl (y2)), (3, .inl (y3)), (4, .inr (.inl (y4))), (6, .inl (y6)), (7, .inr (.inl (y7)))] [] (px_G1, s) (px_Qlp s out)) : ∀ (n : Nat) (x1 : Int) (x2 : Int) (x3 : Int) (x4 : Int) (x6 : Int) (x7 : Int) (x9 : Int) (out : Int), l_M_partsOf_11 s k34 n x1 x2 x3 x4 x6 x7 x9 = some out → px_D sc (d + 0) 271 11 [(1, .inl (x1)), (2, .inl (x2)), (3, .inl (x3)), (4, .inr (.inl (x4))), (6, .inl (x6)), (7, .inr (.inl (x7))), (9, .inl (x9))] [] (px_G1, s) (px_Qlp s out) := by
  intro n
  induction n with
  | zero => intro x1 x2 x3 x4 x6 x7 x9 out h; cases h
  | succ n ih =>
    intro x1 x2 x3 x4 x6 x7 x9 out h
    rw [l_M_partsOf_11] at h
    refine px_D_st 4 (ip1 := 15) (ls1 := [(1, .inl (x1)), (2, .inl (x2)), (3, .inl (x3)), (4, .inr (.inl (x4))), (6, .inl (x6)), (7, .inr (.inl (x7))), (9, .inl (x9))]) (st1 := [.inl (px_wr (x2 - 1)), .inl (x9)]) (h1 := (px_G1, s)) rfl ?_
    refine px_D_icmp rfl (fun hc => ?_) (fun hc => ?_)
    · have hc2 : (px_wr (x2 - 1)) ≤ (x9) := of_decide_eq_true hc
      rw [if_pos hc2] at h
      refine px_D_ls [(1, .inl (x1)), (2, .inl (x2)), (3, .inl (x3)), (4, .inr (.inl (x4))), (6, .inl (x6)), (7, .inr (.inl (x7)))] rfl rfl (List.forall_mem_cons.mpr ⟨rfl, List.forall_mem_cons.mpr ⟨rfl, List.forall_mem_cons.mpr ⟨rfl, List.forall_mem_cons.mpr ⟨rfl, List.forall_mem_cons.mpr ⟨rfl, List.forall_mem_cons.mpr ⟨rfl, fun _ h => absurd h List.not_mem_nil⟩⟩⟩⟩⟩⟩) ?_
      exact hk34 _ _ _ _ _ _ _ h
    · have hc2 : ¬ ((px_wr (x2 - 1)) ≤ (x9)) := of_decide_eq_false hc
      rw [if_neg hc2] at h
      refine px_D_st 7 (ip1 := 23) (ls1 := [(1, .inl (x1)), (2, .inl (x2)), (3, .inl (x3)), (4, .inr (.inl (x4))), (6, .inl (x6)), (7, .inr (.inl (x7))), (9, .inl (x9))]) (st1 := [.inl (px_wr ((px_wr (x2 - 1)) - x6)), .inl (x9), .inr (.inl (x7))]) (h1 := (px_G1, s)) rfl ?_
      refine px_D_icmp rfl (fun hc => ?_) (fun hc => ?_)
      · have hc3 : (px_wr ((px_wr (x2 - 1)) - x6)) ≤ (x9) := of_decide_eq_true hc
        rw [if_pos hc3] at h
        refine px_D_st 8 (ip1 := 11) (ls1 := [(9, .inl (px_wr (x9 + 1))), (7, .inr (.inl (px_wl (x7 * (px_wr (10 - x3)))))), (1, .inl (x1)), (2, .inl (x2)), (3, .inl (x3)), (4, .inr (.inl (x4))), (6, .inl (x6))]) (st1 := []) (h1 := (px_G1, s)) rfl ?_
        refine px_D_ls [(1, .inl (x1)), (2, .inl (x2)), (3, .inl (x3)), (4, .inr (.inl (x4))), (6, .inl (x6)), (7, .inr (.inl (px_wl (x7 * (px_wr (10 - x3)))))), (9, .inl (px_wr (x9 + 1)))] rfl rfl (List.forall_mem_cons.mpr ⟨rfl, List.forall_mem_cons.mpr ⟨rfl, List.forall_mem_cons.mpr ⟨rfl, List.forall_mem_cons.mpr ⟨rfl, List.forall_mem_cons.mpr ⟨rfl, List.forall_mem_cons.mpr ⟨rfl, List.forall_mem_cons.mpr ⟨rfl, fun _ h => absurd h List.not_mem_nil⟩⟩⟩⟩⟩⟩⟩) ?_
        exact ih _ _ _ _ _ _ _ _ h
      · have hc3 : ¬ ((px_wr ((px_wr (x2 - 1)) - x6)) ≤ (x9)) := of_decide_eq_false hc
        rw [if_neg hc3] at h
        refine px_D_st 7 (ip1 := 11) (ls1 := [(9, .inl (px_wr (x9 + 1))), (7, .inr (.inl (px_wl (x7 * x3)))), (1, .inl (x1)), (2, .inl (x2)), (3, .inl (x3)), (4, .inr (.inl (x4))), (6, .inl (x6))]) (st1 := []) (h1 := (px_G1, s)) rfl ?_
        refine px_D_ls [(1, .inl (x1)), (2, .inl (x2)), (3, .inl (x3)), (4, .inr (.inl (x4))), (6, .inl (x6)), (7, .inr (.inl (px_wl (x7 * x3)))), (9, .inl (px_wr (x9 + 1)))] rfl rfl (List.forall_mem_cons.mpr ⟨rfl, List.forall_mem_cons.mpr ⟨rfl, List.forall_mem_cons.mpr ⟨rfl, List.forall_mem_cons.mpr ⟨rfl, List.forall_mem_cons.mpr ⟨rfl, List.forall_mem_cons.mpr ⟨rfl, List.forall_mem_cons.mpr ⟨rfl, fun _ h => absurd h List.not_mem_nil⟩⟩⟩⟩⟩⟩⟩) ?_
        exact ih _ _ _ _ _ _ _ _ h
def l_M_partsOf_4 (s : px_Z)  : Nat → Int → Int → Int → Int → Int → Option (Int)
  | 0, _, _, _, _, _ => none
  | n + 1, x1, x2, x3, x4, x6 => if (x1) ≤ (x6) then some x4 else l_M_partsOf_11 s (fun x1 x2 x3 x4 x6 x7 => l_M_partsOf_4 s  n x1 x2 x3 (px_wl (x4 + x7)) (px_wr (x6 + 1))) px_big x1 x2 x3 x4 x6 1 0
set_option maxHeartbeats 4000000 in
set_option maxRecDepth 100000 in
theorem cl_M_partsOf_4 {sc : List Int} {d : Nat} {s : px_Z}  : ∀ (n : Nat) (x1 : Int) (x2 : Int) (x3 : Int) (x4 : Int) (x6 : Int) (out : Int), l_M_partsOf_4 s  n x1 x2 x3 x4 x6 = some out → px_D sc (d + 0) 271 4 [(1, .inl (x1)), (2, .inl (x2)), (3, .inl (x3)), (4, .inr (.inl (x4))), (6, .inl (x6))] [] (px_G1, s) (px_Qlp s out) := by
  intro n
  induction n with
  | zero => intro x1 x2 x3 x4 x6 out h; cases h
  | succ n ih =>
    intro x1 x2 x3 x4 x6 out h
    rw [l_M_partsOf_4] at h
    refine px_D_st 2 (ip1 := 6) (ls1 := [(1, .inl (x1)), (2, .inl (x2)), (3, .inl (x3)), (4, .inr (.inl (x4))), (6, .inl (x6))]) (st1 := [.inl (x1), .inl (x6)]) (h1 := (px_G1, s)) rfl ?_
    refine px_D_icmp rfl (fun hc => ?_) (fun hc => ?_)
    · have hc1 : (x1) ≤ (x6) := of_decide_eq_true hc
      rw [if_pos hc1] at h
      refine px_D_st 1 (ip1 := 41) (ls1 := [(1, .inl (x1)), (2, .inl (x2)), (3, .inl (x3)), (4, .inr (.inl (x4))), (6, .inl (x6))]) (st1 := [.inr (.inl (x4))]) (h1 := (px_G1, s)) rfl ?_
      cases h
      exact px_D_lret rfl ⟨rfl, rfl⟩
    · have hc1 : ¬ ((x1) ≤ (x6)) := of_decide_eq_false hc
      rw [if_neg hc1] at h
      refine px_D_st 4 (ip1 := 11) (ls1 := [(9, .inl (0)), (7, .inr (.inl (1))), (1, .inl (x1)), (2, .inl (x2)), (3, .inl (x3)), (4, .inr (.inl (x4))), (6, .inl (x6))]) (st1 := []) (h1 := (px_G1, s)) rfl ?_
      refine px_D_ls [(1, .inl (x1)), (2, .inl (x2)), (3, .inl (x3)), (4, .inr (.inl (x4))), (6, .inl (x6)), (7, .inr (.inl (1))), (9, .inl (0))] rfl rfl (List.forall_mem_cons.mpr ⟨rfl, List.forall_mem_cons.mpr ⟨rfl, List.forall_mem_cons.mpr ⟨rfl, List.forall_mem_cons.mpr ⟨rfl, List.forall_mem_cons.mpr ⟨rfl, List.forall_mem_cons.mpr ⟨rfl, List.forall_mem_cons.mpr ⟨rfl, fun _ h => absurd h List.not_mem_nil⟩⟩⟩⟩⟩⟩⟩) ?_
      refine cl_M_partsOf_11 ?_ px_big _ _ _ _ _ _ _ _ h
      · intro x1 x2 x3 x4 x6 x7 out h
        refine px_D_st 6 (ip1 := 4) (ls1 := [(6, .inl (px_wr (x6 + 1))), (4, .inr (.inl (px_wl (x4 + x7)))), (1, .inl (x1)), (2, .inl (x2)), (3, .inl (x3)), (7, .inr (.inl (x7)))]) (st1 := []) (h1 := (px_G1, s)) rfl ?_
        refine px_D_ls [(1, .inl (x1)), (2, .inl (x2)), (3, .inl (x3)), (4, .inr (.inl (px_wl (x4 + x7)))), (6, .inl (px_wr (x6 + 1)))] rfl rfl (List.forall_mem_cons.mpr ⟨rfl, List.forall_mem_cons.mpr ⟨rfl, List.forall_mem_cons.mpr ⟨rfl, List.forall_mem_cons.mpr ⟨rfl, List.forall_mem_cons.mpr ⟨rfl, fun _ h => absurd h List.not_mem_nil⟩⟩⟩⟩⟩) ?_
        exact ih _ _ _ _ _ _ h
def f_M_partsOf (s : px_Z) (x1 : Int) (x2 : Int) (x3 : Int) : Option (Int) := l_M_partsOf_4 s  px_big x1 x2 x3 0 0
set_option maxHeartbeats 4000000 in
set_option maxRecDepth 100000 in
theorem c_M_partsOf {sc : List Int} {d : Nat} {s : px_Z} {x1 : Int} {x2 : Int} {x3 : Int} {out : Int} (h : f_M_partsOf s x1 x2 x3 = some out) : px_D sc (d + 0) 271 0 [(0, .inr (.inr 150)), (1, .inl (x1)), (2, .inl (x2)), (3, .inl (x3))] [] (px_G1, s) (px_Qlp s out) := by
  unfold f_M_partsOf at h
  refine px_D_st 4 (ip1 := 4) (ls1 := [(6, .inl (0)), (4, .inr (.inl (0))), (0, .inr (.inr 150)), (1, .inl (x1)), (2, .inl (x2)), (3, .inl (x3))]) (st1 := []) (h1 := (px_G1, s)) rfl ?_
  refine px_D_ls [(1, .inl (x1)), (2, .inl (x2)), (3, .inl (x3)), (4, .inr (.inl (0))), (6, .inl (0))] rfl rfl (List.forall_mem_cons.mpr ⟨rfl, List.forall_mem_cons.mpr ⟨rfl, List.forall_mem_cons.mpr ⟨rfl, List.forall_mem_cons.mpr ⟨rfl, List.forall_mem_cons.mpr ⟨rfl, fun _ h => absurd h List.not_mem_nil⟩⟩⟩⟩⟩) ?_
  refine cl_M_partsOf_4  px_big _ _ _ _ _ _ h

def f_M_cards (s : px_Z) (x1 : Int) (x2 : Int) (x3 : Int) (x4 : Int) : Option (Int × px_Z) := if (f_M_isIn (px_up s 150 0 0) x2 2 12) = (0) then some (((-1), px_up s 150 0 0)) else (if (f_M_isIn (px_up s 150 0 0) x1 1 (px_wr (x2 - 1))) = (0) then some (((-1), px_up s 150 0 0)) else (if (f_M_isIn (px_up s 150 0 0) x3 1 9) = (0) then some (((-1), px_up s 150 0 0)) else (if (f_M_isIn (px_up s 150 0 0) x4 0 1) = (0) then some (((-1), px_up s 150 0 0)) else (f_M_partsOf (px_up s 150 0 0) x1 x2 x3).bind (fun q5 => (f_M_partsOf (px_up s 150 0 0) x2 x2 x3).bind (fun q6 => (f_M_commonOf (px_up s 150 0 0) q5 q6).bind (fun q7 => if (x4) = (0) then (if (q7) = 0 then none else some ((px_wl (q5.tdiv q7), px_up s 150 0 0))) else (if (q7) = 0 then none else some ((px_wl (q6.tdiv q7), px_up s 150 0 0)))))))))
set_option maxHeartbeats 4000000 in
set_option maxRecDepth 100000 in
theorem c_M_cards {sc : List Int} {d : Nat} {s : px_Z} {x1 : Int} {x2 : Int} {x3 : Int} {x4 : Int} {out : Int × px_Z} (h : f_M_cards s x1 x2 x3 x4 = some out) : px_D sc (d + 1) 272 0 [(0, .inr (.inr 150)), (1, .inl (x1)), (2, .inl (x2)), (3, .inl (x3)), (4, .inl (x4))] [] (px_G1, s) (px_Ql out) := by
  unfold f_M_cards at h
  refine px_D_st 7 (ip1 := 7) (ls1 := [(0, .inr (.inr 150)), (1, .inl (x1)), (2, .inl (x2)), (3, .inl (x3)), (4, .inl (x4))]) (st1 := [.inl (12), .inl (2), .inl (x2), .inr (.inr 150)]) (h1 := (px_G1, px_up s 150 0 0)) rfl ?_
  refine px_D_call (as := [.inr (.inr 150), .inl (x2), .inl (2), .inl (12)]) (rest := []) rfl rfl rfl rfl ?_
  refine px_D_mono (c_M_isIn (d := d + 0) rfl) ?_
  rintro _ _ ⟨rfl, rfl⟩
  show px_D sc (d + 1) 272 8 [(0, .inr (.inr 150)), (1, .inl (x1)), (2, .inl (x2)), (3, .inl (x3)), (4, .inl (x4))] [.inl (f_M_isIn (px_up s 150 0 0) x2 2 12)] (px_G1, px_up s 150 0 0) _
  refine px_D_ifc rfl (fun hc => ?_) (fun hc => ?_)
  · have hc1 : (f_M_isIn (px_up s 150 0 0) x2 2 12) = (0) := of_decide_eq_true hc
    rw [if_pos hc1] at h
    refine px_D_st 1 (ip1 := 30) (ls1 := [(0, .inr (.inr 150)), (1, .inl (x1)), (2, .inl (x2)), (3, .inl (x3)), (4, .inl (x4))]) (st1 := [.inr (.inl ((-1)))]) (h1 := (px_G1, px_up s 150 0 0)) rfl ?_
    cases h
    exact px_D_lret rfl ⟨rfl, rfl⟩
  · have hc1 : ¬ ((f_M_isIn (px_up s 150 0 0) x2 2 12) = (0)) := of_decide_eq_false hc
    rw [if_neg hc1] at h
    refine px_D_st 6 (ip1 := 15) (ls1 := [(0, .inr (.inr 150)), (1, .inl (x1)), (2, .inl (x2)), (3, .inl (x3)), (4, .inl (x4))]) (st1 := [.inl (px_wr (x2 - 1)), .inl (1), .inl (x1), .inr (.inr 150)]) (h1 := (px_G1, px_up s 150 0 0)) rfl ?_
    refine px_D_call (as := [.inr (.inr 150), .inl (x1), .inl (1), .inl (px_wr (x2 - 1))]) (rest := []) rfl rfl rfl rfl ?_
    refine px_D_mono (c_M_isIn (d := d + 0) rfl) ?_
    rintro _ _ ⟨rfl, rfl⟩
    show px_D sc (d + 1) 272 16 [(0, .inr (.inr 150)), (1, .inl (x1)), (2, .inl (x2)), (3, .inl (x3)), (4, .inl (x4))] [.inl (f_M_isIn (px_up s 150 0 0) x1 1 (px_wr (x2 - 1)))] (px_G1, px_up s 150 0 0) _
    refine px_D_ifc rfl (fun hc => ?_) (fun hc => ?_)
    · have hc2 : (f_M_isIn (px_up s 150 0 0) x1 1 (px_wr (x2 - 1))) = (0) := of_decide_eq_true hc
      rw [if_pos hc2] at h
      refine px_D_st 1 (ip1 := 30) (ls1 := [(0, .inr (.inr 150)), (1, .inl (x1)), (2, .inl (x2)), (3, .inl (x3)), (4, .inl (x4))]) (st1 := [.inr (.inl ((-1)))]) (h1 := (px_G1, px_up s 150 0 0)) rfl ?_
      cases h
      exact px_D_lret rfl ⟨rfl, rfl⟩
    · have hc2 : ¬ ((f_M_isIn (px_up s 150 0 0) x1 1 (px_wr (x2 - 1))) = (0)) := of_decide_eq_false hc
      rw [if_neg hc2] at h
      refine px_D_st 4 (ip1 := 21) (ls1 := [(0, .inr (.inr 150)), (1, .inl (x1)), (2, .inl (x2)), (3, .inl (x3)), (4, .inl (x4))]) (st1 := [.inl (9), .inl (1), .inl (x3), .inr (.inr 150)]) (h1 := (px_G1, px_up s 150 0 0)) rfl ?_
      refine px_D_call (as := [.inr (.inr 150), .inl (x3), .inl (1), .inl (9)]) (rest := []) rfl rfl rfl rfl ?_
      refine px_D_mono (c_M_isIn (d := d + 0) rfl) ?_
      rintro _ _ ⟨rfl, rfl⟩
      show px_D sc (d + 1) 272 22 [(0, .inr (.inr 150)), (1, .inl (x1)), (2, .inl (x2)), (3, .inl (x3)), (4, .inl (x4))] [.inl (f_M_isIn (px_up s 150 0 0) x3 1 9)] (px_G1, px_up s 150 0 0) _
      refine px_D_ifc rfl (fun hc => ?_) (fun hc => ?_)
      · have hc3 : (f_M_isIn (px_up s 150 0 0) x3 1 9) = (0) := of_decide_eq_true hc
        rw [if_pos hc3] at h
        refine px_D_st 1 (ip1 := 30) (ls1 := [(0, .inr (.inr 150)), (1, .inl (x1)), (2, .inl (x2)), (3, .inl (x3)), (4, .inl (x4))]) (st1 := [.inr (.inl ((-1)))]) (h1 := (px_G1, px_up s 150 0 0)) rfl ?_
        cases h
        exact px_D_lret rfl ⟨rfl, rfl⟩
      · have hc3 : ¬ ((f_M_isIn (px_up s 150 0 0) x3 1 9) = (0)) := of_decide_eq_false hc
        rw [if_neg hc3] at h
        refine px_D_st 4 (ip1 := 27) (ls1 := [(0, .inr (.inr 150)), (1, .inl (x1)), (2, .inl (x2)), (3, .inl (x3)), (4, .inl (x4))]) (st1 := [.inl (1), .inl (0), .inl (x4), .inr (.inr 150)]) (h1 := (px_G1, px_up s 150 0 0)) rfl ?_
        refine px_D_call (as := [.inr (.inr 150), .inl (x4), .inl (0), .inl (1)]) (rest := []) rfl rfl rfl rfl ?_
        refine px_D_mono (c_M_isIn (d := d + 0) rfl) ?_
        rintro _ _ ⟨rfl, rfl⟩
        show px_D sc (d + 1) 272 28 [(0, .inr (.inr 150)), (1, .inl (x1)), (2, .inl (x2)), (3, .inl (x3)), (4, .inl (x4))] [.inl (f_M_isIn (px_up s 150 0 0) x4 0 1)] (px_G1, px_up s 150 0 0) _
        refine px_D_ifc rfl (fun hc => ?_) (fun hc => ?_)
        · have hc4 : ¬ ((f_M_isIn (px_up s 150 0 0) x4 0 1) = (0)) := of_decide_eq_true hc
          rw [if_neg hc4] at h
          refine px_D_st 4 (ip1 := 35) (ls1 := [(0, .inr (.inr 150)), (1, .inl (x1)), (2, .inl (x2)), (3, .inl (x3)), (4, .inl (x4))]) (st1 := [.inl (x3), .inl (x2), .inl (x1), .inr (.inr 150)]) (h1 := (px_G1, px_up s 150 0 0)) rfl ?_
          refine px_D_call (as := [.inr (.inr 150), .inl (x1), .inl (x2), .inl (x3)]) (rest := []) rfl rfl rfl rfl ?_
          obtain ⟨q5, hq5, h⟩ := Option.bind_eq_some_iff.mp h
          refine px_D_mono (c_M_partsOf (d := d + 0) hq5) ?_
          rintro _ _ ⟨rfl, rfl⟩
          show px_D sc (d + 1) 272 36 [(0, .inr (.inr 150)), (1, .inl (x1)), (2, .inl (x2)), (3, .inl (x3)), (4, .inl (x4))] [.inr (.inl (q5))] (px_G1, px_up s 150 0 0) _
          refine px_D_st 5 (ip1 := 41) (ls1 := [(5, .inr (.inl (q5))), (0, .inr (.inr 150)), (1, .inl (x1)), (2, .inl (x2)), (3, .inl (x3)), (4, .inl (x4))]) (st1 := [.inl (x3), .inl (x2), .inl (x2), .inr (.inr 150)]) (h1 := (px_G1, px_up s 150 0 0)) rfl ?_
          refine px_D_call (as := [.inr (.inr 150), .inl (x2), .inl (x2), .inl (x3)]) (rest := []) rfl rfl rfl rfl ?_
          obtain ⟨q6, hq6, h⟩ := Option.bind_eq_some_iff.mp h
          refine px_D_mono (c_M_partsOf (d := d + 0) hq6) ?_
          rintro _ _ ⟨rfl, rfl⟩
          show px_D sc (d + 1) 272 42 [(5, .inr (.inl (q5))), (0, .inr (.inr 150)), (1, .inl (x1)), (2, .inl (x2)), (3, .inl (x3)), (4, .inl (x4))] [.inr (.inl (q6))] (px_G1, px_up s 150 0 0) _
          refine px_D_st 4 (ip1 := 46) (ls1 := [(7, .inr (.inl (q6))), (5, .inr (.inl (q5))), (0, .inr (.inr 150)), (1, .inl (x1)), (2, .inl (x2)), (3, .inl (x3)), (4, .inl (x4))]) (st1 := [.inr (.inl (q6)), .inr (.inl (q5)), .inr (.inr 150)]) (h1 := (px_G1, px_up s 150 0 0)) rfl ?_
          refine px_D_call (as := [.inr (.inr 150), .inr (.inl (q5)), .inr (.inl (q6))]) (rest := []) rfl rfl rfl rfl ?_
          obtain ⟨q7, hq7, h⟩ := Option.bind_eq_some_iff.mp h
          refine px_D_mono (c_M_commonOf (d := d + 0) hq7) ?_
          rintro _ _ ⟨rfl, rfl⟩
          show px_D sc (d + 1) 272 47 [(7, .inr (.inl (q6))), (5, .inr (.inl (q5))), (0, .inr (.inr 150)), (1, .inl (x1)), (2, .inl (x2)), (3, .inl (x3)), (4, .inl (x4))] [.inr (.inl (q7))] (px_G1, px_up s 150 0 0) _
          refine px_D_st 2 (ip1 := 49) (ls1 := [(9, .inr (.inl (q7))), (7, .inr (.inl (q6))), (5, .inr (.inl (q5))), (0, .inr (.inr 150)), (1, .inl (x1)), (2, .inl (x2)), (3, .inl (x3)), (4, .inl (x4))]) (st1 := [.inl (x4)]) (h1 := (px_G1, px_up s 150 0 0)) rfl ?_
          refine px_D_ifc rfl (fun hc => ?_) (fun hc => ?_)
          · have hc8 : ¬ ((x4) = (0)) := of_decide_eq_true hc
            rw [if_neg hc8] at h
            refine px_D_st 2 (ip1 := 56) (ls1 := [(9, .inr (.inl (q7))), (7, .inr (.inl (q6))), (5, .inr (.inl (q5))), (0, .inr (.inr 150)), (1, .inl (x1)), (2, .inl (x2)), (3, .inl (x3)), (4, .inl (x4))]) (st1 := [.inr (.inl (q7)), .inr (.inl (q6))]) (h1 := (px_G1, px_up s 150 0 0)) rfl ?_
            by_cases hc9 : (q7) = 0
            · rw [if_pos hc9] at h; cases h
            rw [if_neg hc9] at h
            refine px_D_ldiv rfl hc9 ?_
            cases h
            exact px_D_lret rfl ⟨rfl, rfl⟩
          · have hc8 : (x4) = (0) := Decidable.of_not_not (of_decide_eq_false hc)
            rw [if_pos hc8] at h
            refine px_D_st 2 (ip1 := 52) (ls1 := [(9, .inr (.inl (q7))), (7, .inr (.inl (q6))), (5, .inr (.inl (q5))), (0, .inr (.inr 150)), (1, .inl (x1)), (2, .inl (x2)), (3, .inl (x3)), (4, .inl (x4))]) (st1 := [.inr (.inl (q7)), .inr (.inl (q5))]) (h1 := (px_G1, px_up s 150 0 0)) rfl ?_
            by_cases hc10 : (q7) = 0
            · rw [if_pos hc10] at h; cases h
            rw [if_neg hc10] at h
            refine px_D_ldiv rfl hc10 ?_
            refine px_D_st 1 (ip1 := 57) (ls1 := [(9, .inr (.inl (q7))), (7, .inr (.inl (q6))), (5, .inr (.inl (q5))), (0, .inr (.inr 150)), (1, .inl (x1)), (2, .inl (x2)), (3, .inl (x3)), (4, .inl (x4))]) (st1 := [.inr (.inl (px_wl (q5.tdiv q7)))]) (h1 := (px_G1, px_up s 150 0 0)) rfl ?_
            cases h
            exact px_D_lret rfl ⟨rfl, rfl⟩
        · have hc4 : (f_M_isIn (px_up s 150 0 0) x4 0 1) = (0) := Decidable.of_not_not (of_decide_eq_false hc)
          rw [if_pos hc4] at h
          refine px_D_st 1 (ip1 := 30) (ls1 := [(0, .inr (.inr 150)), (1, .inl (x1)), (2, .inl (x2)), (3, .inl (x3)), (4, .inl (x4))]) (st1 := [.inr (.inl ((-1)))]) (h1 := (px_G1, px_up s 150 0 0)) rfl ?_
          cases h
          exact px_D_lret rfl ⟨rfl, rfl⟩

def f_M_share (s : px_Z) (x1 : Int) (x2 : Int) (x3 : Int) (x4 : Int) : Option (Int × px_Z) := if (f_M_isIn (px_up s 150 0 0) x1 0 99999) = (0) then some (((-1), px_up s 150 0 0)) else (if (f_M_isIn (px_up s 150 0 0) x2 1 99) = (0) then some (((-1), px_up s 150 0 0)) else (if (f_M_isIn (px_up s 150 0 0) x3 1 99) = (0) then some (((-1), px_up s 150 0 0)) else (if (f_M_isIn (px_up s 150 0 0) x4 0 2) = (0) then some (((-1), px_up s 150 0 0)) else (if (px_wr (x2 + x3)) = 0 then none else if (px_wr (x2 + x3)) = 0 then none else if (x4) = (0) then some ((px_wr ((px_wr (x1 * x2)).tdiv (px_wr (x2 + x3))), px_up s 150 0 0)) else (if (x4) = (1) then some ((px_wr ((px_wr (x1 * x3)).tdiv (px_wr (x2 + x3))), px_up s 150 0 0)) else some ((px_wr ((px_wr (x1 - (px_wr ((px_wr (x1 * x2)).tdiv (px_wr (x2 + x3)))))) - (px_wr ((px_wr (x1 * x3)).tdiv (px_wr (x2 + x3))))), px_up s 150 0 0)))))))
set_option maxHeartbeats 4000000 in
set_option maxRecDepth 100000 in
theorem c_M_share {sc : List Int} {d : Nat} {s : px_Z} {x1 : Int} {x2 : Int} {x3 : Int} {x4 : Int} {out : Int × px_Z} (h : f_M_share s x1 x2 x3 x4 = some out) : px_D sc (d + 1) 273 0 [(0, .inr (.inr 150)), (1, .inl (x1)), (2, .inl (x2)), (3, .inl (x3)), (4, .inl (x4))] [] (px_G1, s) (px_Qi out) := by
  unfold f_M_share at h
  refine px_D_st 7 (ip1 := 7) (ls1 := [(0, .inr (.inr 150)), (1, .inl (x1)), (2, .inl (x2)), (3, .inl (x3)), (4, .inl (x4))]) (st1 := [.inl (99999), .inl (0), .inl (x1), .inr (.inr 150)]) (h1 := (px_G1, px_up s 150 0 0)) rfl ?_
  refine px_D_call (as := [.inr (.inr 150), .inl (x1), .inl (0), .inl (99999)]) (rest := []) rfl rfl rfl rfl ?_
  refine px_D_mono (c_M_isIn (d := d + 0) rfl) ?_
  rintro _ _ ⟨rfl, rfl⟩
  show px_D sc (d + 1) 273 8 [(0, .inr (.inr 150)), (1, .inl (x1)), (2, .inl (x2)), (3, .inl (x3)), (4, .inl (x4))] [.inl (f_M_isIn (px_up s 150 0 0) x1 0 99999)] (px_G1, px_up s 150 0 0) _
  refine px_D_ifc rfl (fun hc => ?_) (fun hc => ?_)
  · have hc1 : (f_M_isIn (px_up s 150 0 0) x1 0 99999) = (0) := of_decide_eq_true hc
    rw [if_pos hc1] at h
    refine px_D_st 1 (ip1 := 28) (ls1 := [(0, .inr (.inr 150)), (1, .inl (x1)), (2, .inl (x2)), (3, .inl (x3)), (4, .inl (x4))]) (st1 := [.inl ((-1))]) (h1 := (px_G1, px_up s 150 0 0)) rfl ?_
    cases h
    exact px_D_iret rfl rfl ⟨rfl, rfl⟩
  · have hc1 : ¬ ((f_M_isIn (px_up s 150 0 0) x1 0 99999) = (0)) := of_decide_eq_false hc
    rw [if_neg hc1] at h
    refine px_D_st 4 (ip1 := 13) (ls1 := [(0, .inr (.inr 150)), (1, .inl (x1)), (2, .inl (x2)), (3, .inl (x3)), (4, .inl (x4))]) (st1 := [.inl (99), .inl (1), .inl (x2), .inr (.inr 150)]) (h1 := (px_G1, px_up s 150 0 0)) rfl ?_
    refine px_D_call (as := [.inr (.inr 150), .inl (x2), .inl (1), .inl (99)]) (rest := []) rfl rfl rfl rfl ?_
    refine px_D_mono (c_M_isIn (d := d + 0) rfl) ?_
    rintro _ _ ⟨rfl, rfl⟩
    show px_D sc (d + 1) 273 14 [(0, .inr (.inr 150)), (1, .inl (x1)), (2, .inl (x2)), (3, .inl (x3)), (4, .inl (x4))] [.inl (f_M_isIn (px_up s 150 0 0) x2 1 99)] (px_G1, px_up s 150 0 0) _
    refine px_D_ifc rfl (fun hc => ?_) (fun hc => ?_)
    · have hc2 : (f_M_isIn (px_up s 150 0 0) x2 1 99) = (0) := of_decide_eq_true hc
      rw [if_pos hc2] at h
      refine px_D_st 1 (ip1 := 28) (ls1 := [(0, .inr (.inr 150)), (1, .inl (x1)), (2, .inl (x2)), (3, .inl (x3)), (4, .inl (x4))]) (st1 := [.inl ((-1))]) (h1 := (px_G1, px_up s 150 0 0)) rfl ?_
      cases h
      exact px_D_iret rfl rfl ⟨rfl, rfl⟩
    · have hc2 : ¬ ((f_M_isIn (px_up s 150 0 0) x2 1 99) = (0)) := of_decide_eq_false hc
      rw [if_neg hc2] at h
      refine px_D_st 4 (ip1 := 19) (ls1 := [(0, .inr (.inr 150)), (1, .inl (x1)), (2, .inl (x2)), (3, .inl (x3)), (4, .inl (x4))]) (st1 := [.inl (99), .inl (1), .inl (x3), .inr (.inr 150)]) (h1 := (px_G1, px_up s 150 0 0)) rfl ?_
      refine px_D_call (as := [.inr (.inr 150), .inl (x3), .inl (1), .inl (99)]) (rest := []) rfl rfl rfl rfl ?_
      refine px_D_mono (c_M_isIn (d := d + 0) rfl) ?_
      rintro _ _ ⟨rfl, rfl⟩
      show px_D sc (d + 1) 273 20 [(0, .inr (.inr 150)), (1, .inl (x1)), (2, .inl (x2)), (3, .inl (x3)), (4, .inl (x4))] [.inl (f_M_isIn (px_up s 150 0 0) x3 1 99)] (px_G1, px_up s 150 0 0) _
      refine px_D_ifc rfl (fun hc => ?_) (fun hc => ?_)
      · have hc3 : (f_M_isIn (px_up s 150 0 0) x3 1 99) = (0) := of_decide_eq_true hc
        rw [if_pos hc3] at h
        refine px_D_st 1 (ip1 := 28) (ls1 := [(0, .inr (.inr 150)), (1, .inl (x1)), (2, .inl (x2)), (3, .inl (x3)), (4, .inl (x4))]) (st1 := [.inl ((-1))]) (h1 := (px_G1, px_up s 150 0 0)) rfl ?_
        cases h
        exact px_D_iret rfl rfl ⟨rfl, rfl⟩
      · have hc3 : ¬ ((f_M_isIn (px_up s 150 0 0) x3 1 99) = (0)) := of_decide_eq_false hc
        rw [if_neg hc3] at h
        refine px_D_st 4 (ip1 := 25) (ls1 := [(0, .inr (.inr 150)), (1, .inl (x1)), (2, .inl (x2)), (3, .inl (x3)), (4, .inl (x4))]) (st1 := [.inl (2), .inl (0), .inl (x4), .inr (.inr 150)]) (h1 := (px_G1, px_up s 150 0 0)) rfl ?_
        refine px_D_call (as := [.inr (.inr 150), .inl (x4), .inl (0), .inl (2)]) (rest := []) rfl rfl rfl rfl ?_
        refine px_D_mono (c_M_isIn (d := d + 0) rfl) ?_
        rintro _ _ ⟨rfl, rfl⟩
        show px_D sc (d + 1) 273 26 [(0, .inr (.inr 150)), (1, .inl (x1)), (2, .inl (x2)), (3, .inl (x3)), (4, .inl (x4))] [.inl (f_M_isIn (px_up s 150 0 0) x4 0 2)] (px_G1, px_up s 150 0 0) _
        refine px_D_ifc rfl (fun hc => ?_) (fun hc => ?_)
        · have hc4 : ¬ ((f_M_isIn (px_up s 150 0 0) x4 0 2) = (0)) := of_decide_eq_true hc
          rw [if_neg hc4] at h
          refine px_D_st 6 (ip1 := 35) (ls1 := [(0, .inr (.inr 150)), (1, .inl (x1)), (2, .inl (x2)), (3, .inl (x3)), (4, .inl (x4))]) (st1 := [.inl (px_wr (x2 + x3)), .inl (px_wr (x1 * x2))]) (h1 := (px_G1, px_up s 150 0 0)) rfl ?_
          by_cases hc5 : (px_wr (x2 + x3)) = 0
          · rw [if_pos hc5] at h; cases h
          rw [if_neg hc5] at h
          refine px_D_div rfl hc5 ?_
          refine px_D_st 7 (ip1 := 43) (ls1 := [(5, .inl (px_wr ((px_wr (x1 * x2)).tdiv (px_wr (x2 + x3))))), (0, .inr (.inr 150)), (1, .inl (x1)), (2, .inl (x2)), (3, .inl (x3)), (4, .inl (x4))]) (st1 := [.inl (px_wr (x2 + x3)), .inl (px_wr (x1 * x3))]) (h1 := (px_G1, px_up s 150 0 0)) rfl ?_
          by_cases hc6 : (px_wr (x2 + x3)) = 0
          · rw [if_pos hc6] at h; cases h
          rw [if_neg hc6] at h
          refine px_D_div rfl hc6 ?_
          refine px_D_st 2 (ip1 := 46) (ls1 := [(6, .inl (px_wr ((px_wr (x1 * x3)).tdiv (px_wr (x2 + x3))))), (5, .inl (px_wr ((px_wr (x1 * x2)).tdiv (px_wr (x2 + x3))))), (0, .inr (.inr 150)), (1, .inl (x1)), (2, .inl (x2)), (3, .inl (x3)), (4, .inl (x4))]) (st1 := [.inl (x4)]) (h1 := (px_G1, px_up s 150 0 0)) rfl ?_
          refine px_D_ifc rfl (fun hc => ?_) (fun hc => ?_)
          · have hc7 : ¬ ((x4) = (0)) := of_decide_eq_true hc
            rw [if_neg hc7] at h
            refine px_D_st 2 (ip1 := 51) (ls1 := [(6, .inl (px_wr ((px_wr (x1 * x3)).tdiv (px_wr (x2 + x3))))), (5, .inl (px_wr ((px_wr (x1 * x2)).tdiv (px_wr (x2 + x3))))), (0, .inr (.inr 150)), (1, .inl (x1)), (2, .inl (x2)), (3, .inl (x3)), (4, .inl (x4))]) (st1 := [.inl (1), .inl (x4)]) (h1 := (px_G1, px_up s 150 0 0)) rfl ?_
            refine px_D_icmp rfl (fun hc => ?_) (fun hc => ?_)
            · have hc8 : ¬ ((x4) = (1)) := of_decide_eq_true hc
              rw [if_neg hc8] at h
              refine px_D_st 5 (ip1 := 59) (ls1 := [(6, .inl (px_wr ((px_wr (x1 * x3)).tdiv (px_wr (x2 + x3))))), (5, .inl (px_wr ((px_wr (x1 * x2)).tdiv (px_wr (x2 + x3))))), (0, .inr (.inr 150)), (1, .inl (x1)), (2, .inl (x2)), (3, .inl (x3)), (4, .inl (x4))]) (st1 := [.inl (px_wr ((px_wr (x1 - (px_wr ((px_wr (x1 * x2)).tdiv (px_wr (x2 + x3)))))) - (px_wr ((px_wr (x1 * x3)).tdiv (px_wr (x2 + x3))))))]) (h1 := (px_G1, px_up s 150 0 0)) rfl ?_
              cases h
              exact px_D_iret rfl rfl ⟨rfl, rfl⟩
            · have hc8 : (x4) = (1) := Decidable.of_not_not (of_decide_eq_false hc)
              rw [if_pos hc8] at h
              refine px_D_st 2 (ip1 := 59) (ls1 := [(6, .inl (px_wr ((px_wr (x1 * x3)).tdiv (px_wr (x2 + x3))))), (5, .inl (px_wr ((px_wr (x1 * x2)).tdiv (px_wr (x2 + x3))))), (0, .inr (.inr 150)), (1, .inl (x1)), (2, .inl (x2)), (3, .inl (x3)), (4, .inl (x4))]) (st1 := [.inl (px_wr ((px_wr (x1 * x3)).tdiv (px_wr (x2 + x3))))]) (h1 := (px_G1, px_up s 150 0 0)) rfl ?_
              cases h
              exact px_D_iret rfl rfl ⟨rfl, rfl⟩
          · have hc7 : (x4) = (0) := Decidable.of_not_not (of_decide_eq_false hc)
            rw [if_pos hc7] at h
            refine px_D_st 2 (ip1 := 59) (ls1 := [(6, .inl (px_wr ((px_wr (x1 * x3)).tdiv (px_wr (x2 + x3))))), (5, .inl (px_wr ((px_wr (x1 * x2)).tdiv (px_wr (x2 + x3))))), (0, .inr (.inr 150)), (1, .inl (x1)), (2, .inl (x2)), (3, .inl (x3)), (4, .inl (x4))]) (st1 := [.inl (px_wr ((px_wr (x1 * x2)).tdiv (px_wr (x2 + x3))))]) (h1 := (px_G1, px_up s 150 0 0)) rfl ?_
            cases h
            exact px_D_iret rfl rfl ⟨rfl, rfl⟩
        · have hc4 : (f_M_isIn (px_up s 150 0 0) x4 0 2) = (0) := Decidable.of_not_not (of_decide_eq_false hc)
          rw [if_pos hc4] at h
          refine px_D_st 1 (ip1 := 28) (ls1 := [(0, .inr (.inr 150)), (1, .inl (x1)), (2, .inl (x2)), (3, .inl (x3)), (4, .inl (x4))]) (st1 := [.inl ((-1))]) (h1 := (px_G1, px_up s 150 0 0)) rfl ?_
          cases h
          exact px_D_iret rfl rfl ⟨rfl, rfl⟩
