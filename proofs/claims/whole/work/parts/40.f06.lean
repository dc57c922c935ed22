def l_Reader_readAfter_9  : Nat → px_Z → Int → Option (px_Z)
  | 0, _, _ => none
  | n + 1, s, x1 => if (12) < (x1) then some s else (f_Reader_goesOn s ).bind (fun q3 => if (q3) = (0) then some s else (if (x1) = (12) then (if 0 ≤ (s 121 4) ∧ (s 121 4) < 401 then if (s 122 (s 121 4).toNat) = (1) then (if 0 ≤ (s 121 4) ∧ (s 121 4) < 401 then if (s 121 5) ≤ (s 123 (s 121 4).toNat) then (f_Reader_numberWithin s 0 (px_wr ((s 121 5) - 1))).bind (fun q18 => (f_Reader_expect q18.2 279).bind (fun q19 => (f_Reader_readAfterThings q19 q18.1).bind (fun q20 => (f_Reader_expect q20 59).bind (fun q21 => l_Reader_readAfter_9  n (px_up q21 121 13 (px_wr ((q21 121 13) + 1))) (px_wr (x1 + 1)))))) else (f_Reader_fail s 3).bind (fun q22 => (f_Reader_numberWithin q22 0 (px_wr ((q22 121 5) - 1))).bind (fun q23 => (f_Reader_expect q23.2 279).bind (fun q24 => (f_Reader_readAfterThings q24 q23.1).bind (fun q25 => (f_Reader_expect q25 59).bind (fun q26 => l_Reader_readAfter_9  n (px_up q26 121 13 (px_wr ((q26 121 13) + 1))) (px_wr (x1 + 1))))))) else none) else (f_Reader_numberWithin s 0 (px_wr ((s 121 5) - 1))).bind (fun q12 => (f_Reader_expect q12.2 279).bind (fun q13 => (f_Reader_readAfterThings q13 q12.1).bind (fun q14 => (f_Reader_expect q14 59).bind (fun q15 => l_Reader_readAfter_9  n (px_up q15 121 13 (px_wr ((q15 121 13) + 1))) (px_wr (x1 + 1)))))) else none) else (f_Reader_numberWithin s 0 (px_wr ((s 121 5) - 1))).bind (fun q6 => (f_Reader_expect q6.2 279).bind (fun q7 => (f_Reader_readAfterThings q7 q6.1).bind (fun q8 => (f_Reader_expect q8 59).bind (fun q9 => l_Reader_readAfter_9  n (px_up q9 121 13 (px_wr ((q9 121 13) + 1))) (px_wr (x1 + 1))))))))
set_option maxHeartbeats 4000000 in
set_option maxRecDepth 100000 in
theorem cl_Reader_readAfter_9 {sc : List Int} {d : Nat}  : ∀ (n : Nat) (s : px_Z) (x1 : Int) (out : px_Z), l_Reader_readAfter_9  n s x1 = some out → px_D sc (d + 3) 60 9 [(0, .inr (.inr 121)), (1, .inl (x1))] [] (px_G1, s) (px_Qv out) := by
  intro n
  induction n with
  | zero => intro s x1 out h; cases h
  | succ n ih =>
    intro s x1 out h
    rw [l_Reader_readAfter_9] at h
    refine px_D_st 2 (ip1 := 11) (ls1 := [(0, .inr (.inr 121)), (1, .inl (x1))]) (st1 := [.inl (12), .inl (x1)]) (h1 := (px_G1, s)) rfl ?_
    refine px_D_icmp rfl (fun hc => ?_) (fun hc => ?_)
    · have hc2 : (12) < (x1) := of_decide_eq_true hc
      rw [if_pos hc2] at h
      cases h
      exact px_D_vret rfl ⟨rfl, rfl⟩
    · have hc2 : ¬ ((12) < (x1)) := of_decide_eq_false hc
      rw [if_neg hc2] at h
      refine px_D_st 1 (ip1 := 13) (ls1 := [(0, .inr (.inr 121)), (1, .inl (x1))]) (st1 := [.inr (.inr 121)]) (h1 := (px_G1, s)) rfl ?_
      refine px_D_call (as := [.inr (.inr 121)]) (rest := []) rfl rfl rfl rfl ?_
      obtain ⟨q3, hq3, h⟩ := Option.bind_eq_some_iff.mp h
      refine px_D_mono (c_Reader_goesOn (d := d + 2) hq3) ?_
      rintro _ _ ⟨rfl, rfl⟩
      show px_D sc (d + 3) 60 14 [(0, .inr (.inr 121)), (1, .inl (x1))] [.inl (q3)] (px_G1, s) _
      refine px_D_ifc rfl (fun hc => ?_) (fun hc => ?_)
      · have hc4 : (q3) = (0) := of_decide_eq_true hc
        rw [if_pos hc4] at h
        cases h
        exact px_D_vret rfl ⟨rfl, rfl⟩
      · have hc4 : ¬ ((q3) = (0)) := of_decide_eq_false hc
        rw [if_neg hc4] at h
        refine px_D_st 2 (ip1 := 17) (ls1 := [(0, .inr (.inr 121)), (1, .inl (x1))]) (st1 := [.inl (12), .inl (x1)]) (h1 := (px_G1, s)) rfl ?_
        refine px_D_icmp rfl (fun hc => ?_) (fun hc => ?_)
        · have hc5 : ¬ ((x1) = (12)) := of_decide_eq_true hc
          rw [if_neg hc5] at h
          refine px_D_st 6 (ip1 := 42) (ls1 := [(0, .inr (.inr 121)), (1, .inl (x1))]) (st1 := [.inl (px_wr ((s 121 5) - 1)), .inl (0), .inr (.inr 121)]) (h1 := (px_G1, s)) rfl ?_
          refine px_D_call (as := [.inr (.inr 121), .inl (0), .inl (px_wr ((s 121 5) - 1))]) (rest := []) rfl rfl rfl rfl ?_
          obtain ⟨q6, hq6, h⟩ := Option.bind_eq_some_iff.mp h
          refine px_D_mono (c_Reader_numberWithin (d := d + 1) hq6) ?_
          rintro _ _ ⟨rfl, rfl⟩
          show px_D sc (d + 3) 60 43 [(0, .inr (.inr 121)), (1, .inl (x1))] [.inl (q6.1)] (px_G1, q6.2) _
          refine px_D_st 3 (ip1 := 46) (ls1 := [(2, .inl (q6.1)), (0, .inr (.inr 121)), (1, .inl (x1))]) (st1 := [.inl (279), .inr (.inr 121)]) (h1 := (px_G1, q6.2)) rfl ?_
          refine px_D_call (as := [.inr (.inr 121), .inl (279)]) (rest := []) rfl rfl rfl rfl ?_
          obtain ⟨q7, hq7, h⟩ := Option.bind_eq_some_iff.mp h
          refine px_D_mono (c_Reader_expect (d := d + 1) hq7) ?_
          rintro _ _ ⟨rfl, rfl⟩
          show px_D sc (d + 3) 60 47 [(2, .inl (q6.1)), (0, .inr (.inr 121)), (1, .inl (x1))] [] (px_G1, q7) _
          refine px_D_st 2 (ip1 := 49) (ls1 := [(2, .inl (q6.1)), (0, .inr (.inr 121)), (1, .inl (x1))]) (st1 := [.inl (q6.1), .inr (.inr 121)]) (h1 := (px_G1, q7)) rfl ?_
          refine px_D_call (as := [.inr (.inr 121), .inl (q6.1)]) (rest := []) rfl rfl rfl rfl ?_
          obtain ⟨q8, hq8, h⟩ := Option.bind_eq_some_iff.mp h
          refine px_D_mono (c_Reader_readAfterThings (d := d + 0) hq8) ?_
          rintro _ _ ⟨rfl, rfl⟩
          show px_D sc (d + 3) 60 50 [(2, .inl (q6.1)), (0, .inr (.inr 121)), (1, .inl (x1))] [] (px_G1, q8) _
          refine px_D_st 2 (ip1 := 52) (ls1 := [(2, .inl (q6.1)), (0, .inr (.inr 121)), (1, .inl (x1))]) (st1 := [.inl (59), .inr (.inr 121)]) (h1 := (px_G1, q8)) rfl ?_
          refine px_D_call (as := [.inr (.inr 121), .inl (59)]) (rest := []) rfl rfl rfl rfl ?_
          obtain ⟨q9, hq9, h⟩ := Option.bind_eq_some_iff.mp h
          refine px_D_mono (c_Reader_expect (d := d + 1) hq9) ?_
          rintro _ _ ⟨rfl, rfl⟩
          show px_D sc (d + 3) 60 53 [(2, .inl (q6.1)), (0, .inr (.inr 121)), (1, .inl (x1))] [] (px_G1, q9) _
          refine px_D_st 8 (ip1 := 9) (ls1 := [(1, .inl (px_wr (x1 + 1))), (2, .inl (q6.1)), (0, .inr (.inr 121))]) (st1 := []) (h1 := (px_G1, px_up q9 121 13 (px_wr ((q9 121 13) + 1)))) rfl ?_
          refine px_D_ls [(0, .inr (.inr 121)), (1, .inl (px_wr (x1 + 1)))] rfl rfl (List.forall_mem_cons.mpr ⟨rfl, List.forall_mem_cons.mpr ⟨rfl, fun _ h => absurd h List.not_mem_nil⟩⟩) ?_
          exact ih _ _ _ h
        · have hc5 : (x1) = (12) := Decidable.of_not_not (of_decide_eq_false hc)
          rw [if_pos hc5] at h
          refine px_D_st 4 (ip1 := 22) (ls1 := [(0, .inr (.inr 121)), (1, .inl (x1))]) (st1 := [.inl (s 121 4), .inr (.inr 122)]) (h1 := (px_G1, s)) rfl ?_
          by_cases hc10 : 0 ≤ (s 121 4) ∧ (s 121 4) < 401
          case neg => rw [if_neg hc10] at h; cases h
          rw [if_pos hc10] at h
          refine px_D_iald (k := 117) (n := 401) rfl rfl hc10 ?_
          refine px_D_st 1 (ip1 := 24) (ls1 := [(0, .inr (.inr 121)), (1, .inl (x1))]) (st1 := [.inl (1), .inl (s 122 (s 121 4).toNat)]) (h1 := (px_G1, s)) rfl ?_
          refine px_D_icmp rfl (fun hc => ?_) (fun hc => ?_)
          · have hc11 : ¬ ((s 122 (s 121 4).toNat) = (1)) := of_decide_eq_true hc
            rw [if_neg hc11] at h
            refine px_D_st 6 (ip1 := 42) (ls1 := [(0, .inr (.inr 121)), (1, .inl (x1))]) (st1 := [.inl (px_wr ((s 121 5) - 1)), .inl (0), .inr (.inr 121)]) (h1 := (px_G1, s)) rfl ?_
            refine px_D_call (as := [.inr (.inr 121), .inl (0), .inl (px_wr ((s 121 5) - 1))]) (rest := []) rfl rfl rfl rfl ?_
            obtain ⟨q12, hq12, h⟩ := Option.bind_eq_some_iff.mp h
            refine px_D_mono (c_Reader_numberWithin (d := d + 1) hq12) ?_
            rintro _ _ ⟨rfl, rfl⟩
            show px_D sc (d + 3) 60 43 [(0, .inr (.inr 121)), (1, .inl (x1))] [.inl (q12.1)] (px_G1, q12.2) _
            refine px_D_st 3 (ip1 := 46) (ls1 := [(2, .inl (q12.1)), (0, .inr (.inr 121)), (1, .inl (x1))]) (st1 := [.inl (279), .inr (.inr 121)]) (h1 := (px_G1, q12.2)) rfl ?_
            refine px_D_call (as := [.inr (.inr 121), .inl (279)]) (rest := []) rfl rfl rfl rfl ?_
            obtain ⟨q13, hq13, h⟩ := Option.bind_eq_some_iff.mp h
            refine px_D_mono (c_Reader_expect (d := d + 1) hq13) ?_
            rintro _ _ ⟨rfl, rfl⟩
            show px_D sc (d + 3) 60 47 [(2, .inl (q12.1)), (0, .inr (.inr 121)), (1, .inl (x1))] [] (px_G1, q13) _
            refine px_D_st 2 (ip1 := 49) (ls1 := [(2, .inl (q12.1)), (0, .inr (.inr 121)), (1, .inl (x1))]) (st1 := [.inl (q12.1), .inr (.inr 121)]) (h1 := (px_G1, q13)) rfl ?_
            refine px_D_call (as := [.inr (.inr 121), .inl (q12.1)]) (rest := []) rfl rfl rfl rfl ?_
            obtain ⟨q14, hq14, h⟩ := Option.bind_eq_some_iff.mp h
            refine px_D_mono (c_Reader_readAfterThings (d := d + 0) hq14) ?_
            rintro _ _ ⟨rfl, rfl⟩
            show px_D sc (d + 3) 60 50 [(2, .inl (q12.1)), (0, .inr (.inr 121)), (1, .inl (x1))] [] (px_G1, q14) _
            refine px_D_st 2 (ip1 := 52) (ls1 := [(2, .inl (q12.1)), (0, .inr (.inr 121)), (1, .inl (x1))]) (st1 := [.inl (59), .inr (.inr 121)]) (h1 := (px_G1, q14)) rfl ?_
            refine px_D_call (as := [.inr (.inr 121), .inl (59)]) (rest := []) rfl rfl rfl rfl ?_
            obtain ⟨q15, hq15, h⟩ := Option.bind_eq_some_iff.mp h
            refine px_D_mono (c_Reader_expect (d := d + 1) hq15) ?_
            rintro _ _ ⟨rfl, rfl⟩
            show px_D sc (d + 3) 60 53 [(2, .inl (q12.1)), (0, .inr (.inr 121)), (1, .inl (x1))] [] (px_G1, q15) _
            refine px_D_st 8 (ip1 := 9) (ls1 := [(1, .inl (px_wr (x1 + 1))), (2, .inl (q12.1)), (0, .inr (.inr 121))]) (st1 := []) (h1 := (px_G1, px_up q15 121 13 (px_wr ((q15 121 13) + 1)))) rfl ?_
            refine px_D_ls [(0, .inr (.inr 121)), (1, .inl (px_wr (x1 + 1)))] rfl rfl (List.forall_mem_cons.mpr ⟨rfl, List.forall_mem_cons.mpr ⟨rfl, fun _ h => absurd h List.not_mem_nil⟩⟩) ?_
            exact ih _ _ _ h
          · have hc11 : (s 122 (s 121 4).toNat) = (1) := Decidable.of_not_not (of_decide_eq_false hc)
            rw [if_pos hc11] at h
            refine px_D_st 4 (ip1 := 29) (ls1 := [(0, .inr (.inr 121)), (1, .inl (x1))]) (st1 := [.inl (s 121 4), .inr (.inr 123)]) (h1 := (px_G1, s)) rfl ?_
            by_cases hc16 : 0 ≤ (s 121 4) ∧ (s 121 4) < 401
            case neg => rw [if_neg hc16] at h; cases h
            rw [if_pos hc16] at h
            refine px_D_iald (k := 118) (n := 401) rfl rfl hc16 ?_
            refine px_D_st 2 (ip1 := 32) (ls1 := [(0, .inr (.inr 121)), (1, .inl (x1))]) (st1 := [.inl (s 121 5), .inl (s 123 (s 121 4).toNat)]) (h1 := (px_G1, s)) rfl ?_
            refine px_D_icmp rfl (fun hc => ?_) (fun hc => ?_)
            · have hc17 : (s 121 5) ≤ (s 123 (s 121 4).toNat) := of_decide_eq_true hc
              rw [if_pos hc17] at h
              refine px_D_st 6 (ip1 := 42) (ls1 := [(0, .inr (.inr 121)), (1, .inl (x1))]) (st1 := [.inl (px_wr ((s 121 5) - 1)), .inl (0), .inr (.inr 121)]) (h1 := (px_G1, s)) rfl ?_
              refine px_D_call (as := [.inr (.inr 121), .inl (0), .inl (px_wr ((s 121 5) - 1))]) (rest := []) rfl rfl rfl rfl ?_
              obtain ⟨q18, hq18, h⟩ := Option.bind_eq_some_iff.mp h
              refine px_D_mono (c_Reader_numberWithin (d := d + 1) hq18) ?_
              rintro _ _ ⟨rfl, rfl⟩
              show px_D sc (d + 3) 60 43 [(0, .inr (.inr 121)), (1, .inl (x1))] [.inl (q18.1)] (px_G1, q18.2) _
              refine px_D_st 3 (ip1 := 46) (ls1 := [(2, .inl (q18.1)), (0, .inr (.inr 121)), (1, .inl (x1))]) (st1 := [.inl (279), .inr (.inr 121)]) (h1 := (px_G1, q18.2)) rfl ?_
              refine px_D_call (as := [.inr (.inr 121), .inl (279)]) (rest := []) rfl rfl rfl rfl ?_
              obtain ⟨q19, hq19, h⟩ := Option.bind_eq_some_iff.mp h
              refine px_D_mono (c_Reader_expect (d := d + 1) hq19) ?_
              rintro _ _ ⟨rfl, rfl⟩
              show px_D sc (d + 3) 60 47 [(2, .inl (q18.1)), (0, .inr (.inr 121)), (1, .inl (x1))] [] (px_G1, q19) _
              refine px_D_st 2 (ip1 := 49) (ls1 := [(2, .inl (q18.1)), (0, .inr (.inr 121)), (1, .inl (x1))]) (st1 := [.inl (q18.1), .inr (.inr 121)]) (h1 := (px_G1, q19)) rfl ?_
              refine px_D_call (as := [.inr (.inr 121), .inl (q18.1)]) (rest := []) rfl rfl rfl rfl ?_
              obtain ⟨q20, hq20, h⟩ := Option.bind_eq_some_iff.mp h
              refine px_D_mono (c_Reader_readAfterThings (d := d + 0) hq20) ?_
              rintro _ _ ⟨rfl, rfl⟩
              show px_D sc (d + 3) 60 50 [(2, .inl (q18.1)), (0, .inr (.inr 121)), (1, .inl (x1))] [] (px_G1, q20) _
              refine px_D_st 2 (ip1 := 52) (ls1 := [(2, .inl (q18.1)), (0, .inr (.inr 121)), (1, .inl (x1))]) (st1 := [.inl (59), .inr (.inr 121)]) (h1 := (px_G1, q20)) rfl ?_
              refine px_D_call (as := [.inr (.inr 121), .inl (59)]) (rest := []) rfl rfl rfl rfl ?_
              obtain ⟨q21, hq21, h⟩ := Option.bind_eq_some_iff.mp h
              refine px_D_mono (c_Reader_expect (d := d + 1) hq21) ?_
              rintro _ _ ⟨rfl, rfl⟩
              show px_D sc (d + 3) 60 53 [(2, .inl (q18.1)), (0, .inr (.inr 121)), (1, .inl (x1))] [] (px_G1, q21) _
              refine px_D_st 8 (ip1 := 9) (ls1 := [(1, .inl (px_wr (x1 + 1))), (2, .inl (q18.1)), (0, .inr (.inr 121))]) (st1 := []) (h1 := (px_G1, px_up q21 121 13 (px_wr ((q21 121 13) + 1)))) rfl ?_
              refine px_D_ls [(0, .inr (.inr 121)), (1, .inl (px_wr (x1 + 1)))] rfl rfl (List.forall_mem_cons.mpr ⟨rfl, List.forall_mem_cons.mpr ⟨rfl, fun _ h => absurd h List.not_mem_nil⟩⟩) ?_
              exact ih _ _ _ h
            · have hc17 : ¬ ((s 121 5) ≤ (s 123 (s 121 4).toNat)) := of_decide_eq_false hc
              rw [if_neg hc17] at h
              refine px_D_st 2 (ip1 := 35) (ls1 := [(0, .inr (.inr 121)), (1, .inl (x1))]) (st1 := [.inl (3), .inr (.inr 121)]) (h1 := (px_G1, s)) rfl ?_
              refine px_D_call (as := [.inr (.inr 121), .inl (3)]) (rest := []) rfl rfl rfl rfl ?_
              obtain ⟨q22, hq22, h⟩ := Option.bind_eq_some_iff.mp h
              refine px_D_mono (c_Reader_fail (d := d + 2) hq22) ?_
              rintro _ _ ⟨rfl, rfl⟩
              show px_D sc (d + 3) 60 36 [(0, .inr (.inr 121)), (1, .inl (x1))] [] (px_G1, q22) _
              refine px_D_st 6 (ip1 := 42) (ls1 := [(0, .inr (.inr 121)), (1, .inl (x1))]) (st1 := [.inl (px_wr ((q22 121 5) - 1)), .inl (0), .inr (.inr 121)]) (h1 := (px_G1, q22)) rfl ?_
              refine px_D_call (as := [.inr (.inr 121), .inl (0), .inl (px_wr ((q22 121 5) - 1))]) (rest := []) rfl rfl rfl rfl ?_
              obtain ⟨q23, hq23, h⟩ := Option.bind_eq_some_iff.mp h
              refine px_D_mono (c_Reader_numberWithin (d := d + 1) hq23) ?_
              rintro _ _ ⟨rfl, rfl⟩
              show px_D sc (d + 3) 60 43 [(0, .inr (.inr 121)), (1, .inl (x1))] [.inl (q23.1)] (px_G1, q23.2) _
              refine px_D_st 3 (ip1 := 46) (ls1 := [(2, .inl (q23.1)), (0, .inr (.inr 121)), (1, .inl (x1))]) (st1 := [.inl (279), .inr (.inr 121)]) (h1 := (px_G1, q23.2)) rfl ?_
              refine px_D_call (as := [.inr (.inr 121), .inl (279)]) (rest := []) rfl rfl rfl rfl ?_
              obtain ⟨q24, hq24, h⟩ := Option.bind_eq_some_iff.mp h
              refine px_D_mono (c_Reader_expect (d := d + 1) hq24) ?_
              rintro _ _ ⟨rfl, rfl⟩
              show px_D sc (d + 3) 60 47 [(2, .inl (q23.1)), (0, .inr (.inr 121)), (1, .inl (x1))] [] (px_G1, q24) _
              refine px_D_st 2 (ip1 := 49) (ls1 := [(2, .inl (q23.1)), (0, .inr (.inr 121)), (1, .inl (x1))]) (st1 := [.inl (q23.1), .inr (.inr 121)]) (h1 := (px_G1, q24)) rfl ?_
              refine px_D_call (as := [.inr (.inr 121), .inl (q23.1)]) (rest := []) rfl rfl rfl rfl ?_
              obtain ⟨q25, hq25, h⟩ := Option.bind_eq_some_iff.mp h
              refine px_D_mono (c_Reader_readAfterThings (d := d + 0) hq25) ?_
              rintro _ _ ⟨rfl, rfl⟩
              show px_D sc (d + 3) 60 50 [(2, .inl (q23.1)), (0, .inr (.inr 121)), (1, .inl (x1))] [] (px_G1, q25) _
              refine px_D_st 2 (ip1 := 52) (ls1 := [(2, .inl (q23.1)), (0, .inr (.inr 121)), (1, .inl (x1))]) (st1 := [.inl (59), .inr (.inr 121)]) (h1 := (px_G1, q25)) rfl ?_
              refine px_D_call (as := [.inr (.inr 121), .inl (59)]) (rest := []) rfl rfl rfl rfl ?_
              obtain ⟨q26, hq26, h⟩ := Option.bind_eq_some_iff.mp h
              refine px_D_mono (c_Reader_expect (d := d + 1) hq26) ?_
              rintro _ _ ⟨rfl, rfl⟩
              show px_D sc (d + 3) 60 53 [(2, .inl (q23.1)), (0, .inr (.inr 121)), (1, .inl (x1))] [] (px_G1, q26) _
              refine px_D_st 8 (ip1 := 9) (ls1 := [(1, .inl (px_wr (x1 + 1))), (2, .inl (q23.1)), (0, .inr (.inr 121))]) (st1 := []) (h1 := (px_G1, px_up q26 121 13 (px_wr ((q26 121 13) + 1)))) rfl ?_
              refine px_D_ls [(0, .inr (.inr 121)), (1, .inl (px_wr (x1 + 1)))] rfl rfl (List.forall_mem_cons.mpr ⟨rfl, List.forall_mem_cons.mpr ⟨rfl, fun _ h => absurd h List.not_mem_nil⟩⟩) ?_
              exact ih _ _ _ h
def f_Reader_readAfter (s : px_Z) : Option (px_Z) := (f_Arrays_fill_2 (px_up s 121 13 0) 0).bind (fun q1 => l_Reader_readAfter_9  px_big q1 0)
set_option maxHeartbeats 4000000 in
set_option maxRecDepth 100000 in
theorem c_Reader_readAfter {sc : List Int} {d : Nat} {s : px_Z} {out : px_Z} (h : f_Reader_readAfter s  = some out) : px_D sc (d + 3) 60 0 [(0, .inr (.inr 121))] [] (px_G1, s) (px_Qv out) := by
  unfold f_Reader_readAfter at h
  refine px_D_st 6 (ip1 := 6) (ls1 := [(0, .inr (.inr 121))]) (st1 := [.inl (0), .inr (.inr 142)]) (h1 := (px_G1, px_up s 121 13 0)) rfl ?_
  refine px_D_call (as := [.inr (.inr 142), .inl (0)]) (rest := []) rfl rfl rfl rfl ?_
  obtain ⟨q1, hq1, h⟩ := Option.bind_eq_some_iff.mp h
  refine px_D_mono (c_Arrays_fill_2 (d := d + 2) hq1) ?_
  rintro _ _ ⟨rfl, rfl⟩
  show px_D sc (d + 3) 60 7 [(0, .inr (.inr 121))] [] (px_G1, q1) _
  refine px_D_st 2 (ip1 := 9) (ls1 := [(1, .inl (0)), (0, .inr (.inr 121))]) (st1 := []) (h1 := (px_G1, q1)) rfl ?_
  refine px_D_ls [(0, .inr (.inr 121)), (1, .inl (0))] rfl rfl (List.forall_mem_cons.mpr ⟨rfl, List.forall_mem_cons.mpr ⟨rfl, fun _ h => absurd h List.not_mem_nil⟩⟩) ?_
  refine cl_Reader_readAfter_9  px_big _ _ _ h

def f_Reader_addToken (s : px_Z) (x1 : Int) (x2 : Int) (x3 : Int) : Option (px_Z) := if (401) ≤ (s 121 3) then some s else (if 0 ≤ (s 121 3) ∧ (s 121 3) < 401 then if 0 ≤ ((px_up s 122 (s 121 3).toNat x1) 121 3) ∧ ((px_up s 122 (s 121 3).toNat x1) 121 3) < 401 then if 0 ≤ ((px_up (px_up s 122 (s 121 3).toNat x1) 123 ((px_up s 122 (s 121 3).toNat x1) 121 3).toNat x2) 121 3) ∧ ((px_up (px_up s 122 (s 121 3).toNat x1) 123 ((px_up s 122 (s 121 3).toNat x1) 121 3).toNat x2) 121 3) < 401 then some (px_up (px_up (px_up (px_up s 122 (s 121 3).toNat x1) 123 ((px_up s 122 (s 121 3).toNat x1) 121 3).toNat x2) 124 ((px_up (px_up s 122 (s 121 3).toNat x1) 123 ((px_up s 122 (s 121 3).toNat x1) 121 3).toNat x2) 121 3).toNat x3) 121 3 (px_wr (((px_up (px_up (px_up s 122 (s 121 3).toNat x1) 123 ((px_up s 122 (s 121 3).toNat x1) 121 3).toNat x2) 124 ((px_up (px_up s 122 (s 121 3).toNat x1) 123 ((px_up s 122 (s 121 3).toNat x1) 121 3).toNat x2) 121 3).toNat x3) 121 3) + 1))) else none else none else none)
set_option maxHeartbeats 4000000 in
set_option maxRecDepth 100000 in
theorem c_Reader_addToken {sc : List Int} {d : Nat} {s : px_Z} {x1 : Int} {x2 : Int} {x3 : Int} {out : px_Z} (h : f_Reader_addToken s x1 x2 x3 = some out) : px_D sc (d + 0) 43 0 [(0, .inr (.inr 121)), (1, .inl (x1)), (2, .inl (x2)), (3, .inl (x3))] [] (px_G1, s) (px_Qv out) := by
  unfold f_Reader_addToken at h
  refine px_D_st 5 (ip1 := 5) (ls1 := [(0, .inr (.inr 121)), (1, .inl (x1)), (2, .inl (x2)), (3, .inl (x3))]) (st1 := [.inl (401), .inl (s 121 3)]) (h1 := (px_G1, s)) rfl ?_
  refine px_D_icmp rfl (fun hc => ?_) (fun hc => ?_)
  · have hc1 : (401) ≤ (s 121 3) := of_decide_eq_true hc
    rw [if_pos hc1] at h
    cases h
    exact px_D_vret rfl ⟨rfl, rfl⟩
  · have hc1 : ¬ ((401) ≤ (s 121 3)) := of_decide_eq_false hc
    rw [if_neg hc1] at h
    refine px_D_st 5 (ip1 := 11) (ls1 := [(0, .inr (.inr 121)), (1, .inl (x1)), (2, .inl (x2)), (3, .inl (x3))]) (st1 := [.inl (x1), .inl (s 121 3), .inr (.inr 122)]) (h1 := (px_G1, s)) rfl ?_
    by_cases hc2 : 0 ≤ (s 121 3) ∧ (s 121 3) < 401
    case neg => rw [if_neg hc2] at h; cases h
    rw [if_pos hc2] at h
    refine px_D_iast (k := 117) (n := 401) rfl rfl hc2 ?_
    refine px_D_st 5 (ip1 := 17) (ls1 := [(0, .inr (.inr 121)), (1, .inl (x1)), (2, .inl (x2)), (3, .inl (x3))]) (st1 := [.inl (x2), .inl ((px_up s 122 (s 121 3).toNat x1) 121 3), .inr (.inr 123)]) (h1 := (px_G1, px_up s 122 (s 121 3).toNat x1)) rfl ?_
    by_cases hc3 : 0 ≤ ((px_up s 122 (s 121 3).toNat x1) 121 3) ∧ ((px_up s 122 (s 121 3).toNat x1) 121 3) < 401
    case neg => rw [if_neg hc3] at h; cases h
    rw [if_pos hc3] at h
    refine px_D_iast (k := 118) (n := 401) rfl rfl hc3 ?_
    refine px_D_st 5 (ip1 := 23) (ls1 := [(0, .inr (.inr 121)), (1, .inl (x1)), (2, .inl (x2)), (3, .inl (x3))]) (st1 := [.inl (x3), .inl ((px_up (px_up s 122 (s 121 3).toNat x1) 123 ((px_up s 122 (s 121 3).toNat x1) 121 3).toNat x2) 121 3), .inr (.inr 124)]) (h1 := (px_G1, px_up (px_up s 122 (s 121 3).toNat x1) 123 ((px_up s 122 (s 121 3).toNat x1) 121 3).toNat x2)) rfl ?_
    by_cases hc4 : 0 ≤ ((px_up (px_up s 122 (s 121 3).toNat x1) 123 ((px_up s 122 (s 121 3).toNat x1) 121 3).toNat x2) 121 3) ∧ ((px_up (px_up s 122 (s 121 3).toNat x1) 123 ((px_up s 122 (s 121 3).toNat x1) 121 3).toNat x2) 121 3) < 401
    case neg => rw [if_neg hc4] at h; cases h
    rw [if_pos hc4] at h
    refine px_D_iast (k := 119) (n := 401) rfl rfl hc4 ?_
    refine px_D_st 6 (ip1 := 30) (ls1 := [(0, .inr (.inr 121)), (1, .inl (x1)), (2, .inl (x2)), (3, .inl (x3))]) (st1 := []) (h1 := (px_G1, px_up (px_up (px_up (px_up s 122 (s 121 3).toNat x1) 123 ((px_up s 122 (s 121 3).toNat x1) 121 3).toNat x2) 124 ((px_up (px_up s 122 (s 121 3).toNat x1) 123 ((px_up s 122 (s 121 3).toNat x1) 121 3).toNat x2) 121 3).toNat x3) 121 3 (px_wr (((px_up (px_up (px_up s 122 (s 121 3).toNat x1) 123 ((px_up s 122 (s 121 3).toNat x1) 121 3).toNat x2) 124 ((px_up (px_up s 122 (s 121 3).toNat x1) 123 ((px_up s 122 (s 121 3).toNat x1) 121 3).toNat x2) 121 3).toNat x3) 121 3) + 1)))) rfl ?_
    cases h
    exact px_D_vret rfl ⟨rfl, rfl⟩

def f_Reader_isLetter (s : px_Z) (x0 : Int) : Int := if (x0) < (97) then (if (x0) < (65) then 0 else (if (90) < (x0) then 0 else 1)) else (if (x0) ≤ (122) then 1 else (if (x0) < (65) then 0 else (if (90) < (x0) then 0 else 1)))
set_option maxHeartbeats 4000000 in
set_option maxRecDepth 100000 in
theorem c_Reader_isLetter {sc : List Int} {d : Nat} {s : px_Z} {x0 : Int} {out : Int} (h : f_Reader_isLetter s x0 = out) : px_D sc (d + 0) 45 0 [(0, .inl (x0))] [] (px_G1, s) (px_Qp s out) := by
  unfold f_Reader_isLetter at h
  refine px_D_st 2 (ip1 := 2) (ls1 := [(0, .inl (x0))]) (st1 := [.inl (97), .inl (x0)]) (h1 := (px_G1, s)) rfl ?_
  refine px_D_icmp rfl (fun hc => ?_) (fun hc => ?_)
  · have hc1 : (x0) < (97) := of_decide_eq_true hc
    rw [if_pos hc1] at h
    refine px_D_st 2 (ip1 := 8) (ls1 := [(0, .inl (x0))]) (st1 := [.inl (65), .inl (x0)]) (h1 := (px_G1, s)) rfl ?_
    refine px_D_icmp rfl (fun hc => ?_) (fun hc => ?_)
    · have hc2 : (x0) < (65) := of_decide_eq_true hc
      rw [if_pos hc2] at h
      refine px_D_st 1 (ip1 := 15) (ls1 := [(0, .inl (x0))]) (st1 := [.inl (0)]) (h1 := (px_G1, s)) rfl ?_
      subst h
      exact px_D_iret rfl rfl ⟨rfl, rfl⟩
    · have hc2 : ¬ ((x0) < (65)) := of_decide_eq_false hc
      rw [if_neg hc2] at h
      refine px_D_st 2 (ip1 := 11) (ls1 := [(0, .inl (x0))]) (st1 := [.inl (90), .inl (x0)]) (h1 := (px_G1, s)) rfl ?_
      refine px_D_icmp rfl (fun hc => ?_) (fun hc => ?_)
      · have hc3 : (90) < (x0) := of_decide_eq_true hc
        rw [if_pos hc3] at h
        refine px_D_st 1 (ip1 := 15) (ls1 := [(0, .inl (x0))]) (st1 := [.inl (0)]) (h1 := (px_G1, s)) rfl ?_
        subst h
        exact px_D_iret rfl rfl ⟨rfl, rfl⟩
      · have hc3 : ¬ ((90) < (x0)) := of_decide_eq_false hc
        rw [if_neg hc3] at h
        refine px_D_st 2 (ip1 := 15) (ls1 := [(0, .inl (x0))]) (st1 := [.inl (1)]) (h1 := (px_G1, s)) rfl ?_
        subst h
        exact px_D_iret rfl rfl ⟨rfl, rfl⟩
  · have hc1 : ¬ ((x0) < (97)) := of_decide_eq_false hc
    rw [if_neg hc1] at h
    refine px_D_st 2 (ip1 := 5) (ls1 := [(0, .inl (x0))]) (st1 := [.inl (122), .inl (x0)]) (h1 := (px_G1, s)) rfl ?_
    refine px_D_icmp rfl (fun hc => ?_) (fun hc => ?_)
    · have hc4 : (x0) ≤ (122) := of_decide_eq_true hc
      rw [if_pos hc4] at h
      refine px_D_st 2 (ip1 := 15) (ls1 := [(0, .inl (x0))]) (st1 := [.inl (1)]) (h1 := (px_G1, s)) rfl ?_
      subst h
      exact px_D_iret rfl rfl ⟨rfl, rfl⟩
    · have hc4 : ¬ ((x0) ≤ (122)) := of_decide_eq_false hc
      rw [if_neg hc4] at h
      refine px_D_st 2 (ip1 := 8) (ls1 := [(0, .inl (x0))]) (st1 := [.inl (65), .inl (x0)]) (h1 := (px_G1, s)) rfl ?_
      refine px_D_icmp rfl (fun hc => ?_) (fun hc => ?_)
      · have hc5 : (x0) < (65) := of_decide_eq_true hc
        rw [if_pos hc5] at h
        refine px_D_st 1 (ip1 := 15) (ls1 := [(0, .inl (x0))]) (st1 := [.inl (0)]) (h1 := (px_G1, s)) rfl ?_
        subst h
        exact px_D_iret rfl rfl ⟨rfl, rfl⟩
      · have hc5 : ¬ ((x0) < (65)) := of_decide_eq_false hc
        rw [if_neg hc5] at h
        refine px_D_st 2 (ip1 := 11) (ls1 := [(0, .inl (x0))]) (st1 := [.inl (90), .inl (x0)]) (h1 := (px_G1, s)) rfl ?_
        refine px_D_icmp rfl (fun hc => ?_) (fun hc => ?_)
        · have hc6 : (90) < (x0) := of_decide_eq_true hc
          rw [if_pos hc6] at h
          refine px_D_st 1 (ip1 := 15) (ls1 := [(0, .inl (x0))]) (st1 := [.inl (0)]) (h1 := (px_G1, s)) rfl ?_
          subst h
          exact px_D_iret rfl rfl ⟨rfl, rfl⟩
        · have hc6 : ¬ ((90) < (x0)) := of_decide_eq_false hc
          rw [if_neg hc6] at h
          refine px_D_st 2 (ip1 := 15) (ls1 := [(0, .inl (x0))]) (st1 := [.inl (1)]) (h1 := (px_G1, s)) rfl ?_
          subst h
          exact px_D_iret rfl rfl ⟨rfl, rfl⟩
set_option maxHeartbeats 4000000 in
set_option maxRecDepth 100000 in
theorem bz_Reader_isLetter {s : px_Z} {x0 : Int} : f_Reader_isLetter s x0 = 0 ∨ f_Reader_isLetter s x0 = 1 := by
  unfold f_Reader_isLetter
  repeat' split
  all_goals first | exact Or.inl rfl | exact Or.inr rfl | exact Or.inl rfl

def l_Reader_keyword_8 (s : px_Z)  : Nat → Int → Int → Int → Int → Int → Int → Option (Int)
  | 0, _, _, _, _, _, _ => none
  | n + 1, x1, x2, x3, x4, x5, x6 => if (((px_tx 0).length : Nat)) ≤ (x6) then some 2 else (if 0 ≤ (x6) then ((px_tx 0)[(x6).toNat]?).bind (fun q3 => if (q3) = (32) then (if (x5) = (0) then l_Reader_keyword_8 s  n x1 x2 (px_wr (x3 + 1)) x1 1 (px_wr (x6 + 1)) else (if (x4) = (x2) then some x3 else l_Reader_keyword_8 s  n x1 x2 (px_wr (x3 + 1)) x1 1 (px_wr (x6 + 1)))) else (if (x5) = (0) then l_Reader_keyword_8 s  n x1 x2 x3 (px_wr (x4 + 1)) 0 (px_wr (x6 + 1)) else (if (x2) ≤ (x4) then l_Reader_keyword_8 s  n x1 x2 x3 (px_wr (x4 + 1)) 0 (px_wr (x6 + 1)) else (if 0 ≤ (x4) ∧ (x4) < 400 then if (s 120 x4.toNat) = (q3) then l_Reader_keyword_8 s  n x1 x2 x3 (px_wr (x4 + 1)) 1 (px_wr (x6 + 1)) else l_Reader_keyword_8 s  n x1 x2 x3 (px_wr (x4 + 1)) 0 (px_wr (x6 + 1)) else none)))) else none)
set_option maxHeartbeats 4000000 in
set_option maxRecDepth 100000 in
theorem cl_Reader_keyword_8 {sc : List Int} {d : Nat} {s : px_Z}  : ∀ (n : Nat) (x1 : Int) (x2 : Int) (x3 : Int) (x4 : Int) (x5 : Int) (x6 : Int) (out : Int), l_Reader_keyword_8 s  n x1 x2 x3 x4 x5 x6 = some out → px_D sc (d + 0) 46 8 [(0, .inr (.inr 120)), (1, .inl (x1)), (2, .inl (x2)), (3, .inl (x3)), (4, .inl (x4)), (5, .inl (x5)), (6, .inl (x6))] [] (px_G1, s) (px_Qp s out) := by
  intro n
  induction n with
  | zero => intro x1 x2 x3 x4 x5 x6 out h; cases h
  | succ n ih =>
    intro x1 x2 x3 x4 x5 x6 out h
    rw [l_Reader_keyword_8] at h
    refine px_D_st 2 (ip1 := 11) (ls1 := [(0, .inr (.inr 120)), (1, .inl (x1)), (2, .inl (x2)), (3, .inl (x3)), (4, .inl (x4)), (5, .inl (x5)), (6, .inl (x6))]) (st1 := [.inl (((px_tx 0).length : Nat)), .inl (x6)]) (h1 := (px_G1, s)) rfl ?_
    refine px_D_icmp rfl (fun hc => ?_) (fun hc => ?_)
    · have hc1 : (((px_tx 0).length : Nat)) ≤ (x6) := of_decide_eq_true hc
      rw [if_pos hc1] at h
      refine px_D_st 1 (ip1 := 50) (ls1 := [(0, .inr (.inr 120)), (1, .inl (x1)), (2, .inl (x2)), (3, .inl (x3)), (4, .inl (x4)), (5, .inl (x5)), (6, .inl (x6))]) (st1 := [.inl (2)]) (h1 := (px_G1, s)) rfl ?_
      cases h
      exact px_D_iret rfl rfl ⟨rfl, rfl⟩
    · have hc1 : ¬ ((((px_tx 0).length : Nat)) ≤ (x6)) := of_decide_eq_false hc
      rw [if_neg hc1] at h
      by_cases hc2 : 0 ≤ (x6)
      case neg => rw [if_neg hc2] at h; cases h
      rw [if_pos hc2] at h
      obtain ⟨q3, hq3, h⟩ := Option.bind_eq_some_iff.mp h
      refine px_D_chr (j := x6) rfl rfl hc2 (by decide) hq3 ?_
      refine px_D_st 3 (ip1 := 18) (ls1 := [(7, .inl (q3)), (0, .inr (.inr 120)), (1, .inl (x1)), (2, .inl (x2)), (3, .inl (x3)), (4, .inl (x4)), (5, .inl (x5)), (6, .inl (x6))]) (st1 := [.inl (32), .inl (q3)]) (h1 := (px_G1, s)) rfl ?_
      refine px_D_icmp rfl (fun hc => ?_) (fun hc => ?_)
      · have hc4 : (q3) = (32) := of_decide_eq_true hc
        rw [if_pos hc4] at h
        refine px_D_st 1 (ip1 := 36) (ls1 := [(7, .inl (q3)), (0, .inr (.inr 120)), (1, .inl (x1)), (2, .inl (x2)), (3, .inl (x3)), (4, .inl (x4)), (5, .inl (x5)), (6, .inl (x6))]) (st1 := [.inl (x5)]) (h1 := (px_G1, s)) rfl ?_
        refine px_D_ifc rfl (fun hc => ?_) (fun hc => ?_)
        · have hc5 : (x5) = (0) := of_decide_eq_true hc
          rw [if_pos hc5] at h
          refine px_D_st 7 (ip1 := 8) (ls1 := [(6, .inl (px_wr (x6 + 1))), (5, .inl (1)), (4, .inl (x1)), (3, .inl (px_wr (x3 + 1))), (7, .inl (q3)), (0, .inr (.inr 120)), (1, .inl (x1)), (2, .inl (x2))]) (st1 := []) (h1 := (px_G1, s)) rfl ?_
          refine px_D_ls [(0, .inr (.inr 120)), (1, .inl (x1)), (2, .inl (x2)), (3, .inl (px_wr (x3 + 1))), (4, .inl (x1)), (5, .inl (1)), (6, .inl (px_wr (x6 + 1)))] rfl rfl (List.forall_mem_cons.mpr ⟨rfl, List.forall_mem_cons.mpr ⟨rfl, List.forall_mem_cons.mpr ⟨rfl, List.forall_mem_cons.mpr ⟨rfl, List.forall_mem_cons.mpr ⟨rfl, List.forall_mem_cons.mpr ⟨rfl, List.forall_mem_cons.mpr ⟨rfl, fun _ h => absurd h List.not_mem_nil⟩⟩⟩⟩⟩⟩⟩) ?_
          exact ih _ _ _ _ _ _ _ h
        · have hc5 : ¬ ((x5) = (0)) := of_decide_eq_false hc
          rw [if_neg hc5] at h
          refine px_D_st 2 (ip1 := 39) (ls1 := [(7, .inl (q3)), (0, .inr (.inr 120)), (1, .inl (x1)), (2, .inl (x2)), (3, .inl (x3)), (4, .inl (x4)), (5, .inl (x5)), (6, .inl (x6))]) (st1 := [.inl (x2), .inl (x4)]) (h1 := (px_G1, s)) rfl ?_
          refine px_D_icmp rfl (fun hc => ?_) (fun hc => ?_)
          · have hc6 : ¬ ((x4) = (x2)) := of_decide_eq_true hc
            rw [if_neg hc6] at h
            refine px_D_st 7 (ip1 := 8) (ls1 := [(6, .inl (px_wr (x6 + 1))), (5, .inl (1)), (4, .inl (x1)), (3, .inl (px_wr (x3 + 1))), (7, .inl (q3)), (0, .inr (.inr 120)), (1, .inl (x1)), (2, .inl (x2))]) (st1 := []) (h1 := (px_G1, s)) rfl ?_
            refine px_D_ls [(0, .inr (.inr 120)), (1, .inl (x1)), (2, .inl (x2)), (3, .inl (px_wr (x3 + 1))), (4, .inl (x1)), (5, .inl (1)), (6, .inl (px_wr (x6 + 1)))] rfl rfl (List.forall_mem_cons.mpr ⟨rfl, List.forall_mem_cons.mpr ⟨rfl, List.forall_mem_cons.mpr ⟨rfl, List.forall_mem_cons.mpr ⟨rfl, List.forall_mem_cons.mpr ⟨rfl, List.forall_mem_cons.mpr ⟨rfl, List.forall_mem_cons.mpr ⟨rfl, fun _ h => absurd h List.not_mem_nil⟩⟩⟩⟩⟩⟩⟩) ?_
            exact ih _ _ _ _ _ _ _ h
          · have hc6 : (x4) = (x2) := Decidable.of_not_not (of_decide_eq_false hc)
            rw [if_pos hc6] at h
            refine px_D_st 1 (ip1 := 41) (ls1 := [(7, .inl (q3)), (0, .inr (.inr 120)), (1, .inl (x1)), (2, .inl (x2)), (3, .inl (x3)), (4, .inl (x4)), (5, .inl (x5)), (6, .inl (x6))]) (st1 := [.inl (x3)]) (h1 := (px_G1, s)) rfl ?_
            cases h
            exact px_D_iret rfl rfl ⟨rfl, rfl⟩
      · have hc4 : ¬ ((q3) = (32)) := of_decide_eq_false hc
        rw [if_neg hc4] at h
        refine px_D_st 1 (ip1 := 20) (ls1 := [(7, .inl (q3)), (0, .inr (.inr 120)), (1, .inl (x1)), (2, .inl (x2)), (3, .inl (x3)), (4, .inl (x4)), (5, .inl (x5)), (6, .inl (x6))]) (st1 := [.inl (x5)]) (h1 := (px_G1, s)) rfl ?_
        refine px_D_ifc rfl (fun hc => ?_) (fun hc => ?_)
        · have hc7 : (x5) = (0) := of_decide_eq_true hc
          rw [if_pos hc7] at h
          refine px_D_st 6 (ip1 := 8) (ls1 := [(6, .inl (px_wr (x6 + 1))), (4, .inl (px_wr (x4 + 1))), (5, .inl (0)), (7, .inl (q3)), (0, .inr (.inr 120)), (1, .inl (x1)), (2, .inl (x2)), (3, .inl (x3))]) (st1 := []) (h1 := (px_G1, s)) rfl ?_
          refine px_D_ls [(0, .inr (.inr 120)), (1, .inl (x1)), (2, .inl (x2)), (3, .inl (x3)), (4, .inl (px_wr (x4 + 1))), (5, .inl (0)), (6, .inl (px_wr (x6 + 1)))] rfl rfl (List.forall_mem_cons.mpr ⟨rfl, List.forall_mem_cons.mpr ⟨rfl, List.forall_mem_cons.mpr ⟨rfl, List.forall_mem_cons.mpr ⟨rfl, List.forall_mem_cons.mpr ⟨rfl, List.forall_mem_cons.mpr ⟨rfl, List.forall_mem_cons.mpr ⟨rfl, fun _ h => absurd h List.not_mem_nil⟩⟩⟩⟩⟩⟩⟩) ?_
          exact ih _ _ _ _ _ _ _ h
        · have hc7 : ¬ ((x5) = (0)) := of_decide_eq_false hc
          rw [if_neg hc7] at h
          refine px_D_st 2 (ip1 := 23) (ls1 := [(7, .inl (q3)), (0, .inr (.inr 120)), (1, .inl (x1)), (2, .inl (x2)), (3, .inl (x3)), (4, .inl (x4)), (5, .inl (x5)), (6, .inl (x6))]) (st1 := [.inl (x2), .inl (x4)]) (h1 := (px_G1, s)) rfl ?_
          refine px_D_icmp rfl (fun hc => ?_) (fun hc => ?_)
          · have hc8 : (x2) ≤ (x4) := of_decide_eq_true hc
            rw [if_pos hc8] at h
            refine px_D_st 6 (ip1 := 8) (ls1 := [(6, .inl (px_wr (x6 + 1))), (4, .inl (px_wr (x4 + 1))), (5, .inl (0)), (7, .inl (q3)), (0, .inr (.inr 120)), (1, .inl (x1)), (2, .inl (x2)), (3, .inl (x3))]) (st1 := []) (h1 := (px_G1, s)) rfl ?_
            refine px_D_ls [(0, .inr (.inr 120)), (1, .inl (x1)), (2, .inl (x2)), (3, .inl (x3)), (4, .inl (px_wr (x4 + 1))), (5, .inl (0)), (6, .inl (px_wr (x6 + 1)))] rfl rfl (List.forall_mem_cons.mpr ⟨rfl, List.forall_mem_cons.mpr ⟨rfl, List.forall_mem_cons.mpr ⟨rfl, List.forall_mem_cons.mpr ⟨rfl, List.forall_mem_cons.mpr ⟨rfl, List.forall_mem_cons.mpr ⟨rfl, List.forall_mem_cons.mpr ⟨rfl, fun _ h => absurd h List.not_mem_nil⟩⟩⟩⟩⟩⟩⟩) ?_
            exact ih _ _ _ _ _ _ _ h
          · have hc8 : ¬ ((x2) ≤ (x4)) := of_decide_eq_false hc
            rw [if_neg hc8] at h
            refine px_D_st 2 (ip1 := 26) (ls1 := [(7, .inl (q3)), (0, .inr (.inr 120)), (1, .inl (x1)), (2, .inl (x2)), (3, .inl (x3)), (4, .inl (x4)), (5, .inl (x5)), (6, .inl (x6))]) (st1 := [.inl (x4), .inr (.inr 120)]) (h1 := (px_G1, s)) rfl ?_
            by_cases hc9 : 0 ≤ (x4) ∧ (x4) < 400
            case neg => rw [if_neg hc9] at h; cases h
            rw [if_pos hc9] at h
            refine px_D_iald (k := 115) (n := 400) rfl rfl hc9 ?_
            refine px_D_st 1 (ip1 := 28) (ls1 := [(7, .inl (q3)), (0, .inr (.inr 120)), (1, .inl (x1)), (2, .inl (x2)), (3, .inl (x3)), (4, .inl (x4)), (5, .inl (x5)), (6, .inl (x6))]) (st1 := [.inl (q3), .inl (s 120 x4.toNat)]) (h1 := (px_G1, s)) rfl ?_
            refine px_D_icmp rfl (fun hc => ?_) (fun hc => ?_)
            · have hc10 : ¬ ((s 120 x4.toNat) = (q3)) := of_decide_eq_true hc
              rw [if_neg hc10] at h
              refine px_D_st 6 (ip1 := 8) (ls1 := [(6, .inl (px_wr (x6 + 1))), (4, .inl (px_wr (x4 + 1))), (5, .inl (0)), (7, .inl (q3)), (0, .inr (.inr 120)), (1, .inl (x1)), (2, .inl (x2)), (3, .inl (x3))]) (st1 := []) (h1 := (px_G1, s)) rfl ?_
              refine px_D_ls [(0, .inr (.inr 120)), (1, .inl (x1)), (2, .inl (x2)), (3, .inl (x3)), (4, .inl (px_wr (x4 + 1))), (5, .inl (0)), (6, .inl (px_wr (x6 + 1)))] rfl rfl (List.forall_mem_cons.mpr ⟨rfl, List.forall_mem_cons.mpr ⟨rfl, List.forall_mem_cons.mpr ⟨rfl, List.forall_mem_cons.mpr ⟨rfl, List.forall_mem_cons.mpr ⟨rfl, List.forall_mem_cons.mpr ⟨rfl, List.forall_mem_cons.mpr ⟨rfl, fun _ h => absurd h List.not_mem_nil⟩⟩⟩⟩⟩⟩⟩) ?_
              exact ih _ _ _ _ _ _ _ h
            · have hc10 : (s 120 x4.toNat) = (q3) := Decidable.of_not_not (of_decide_eq_false hc)
              rw [if_pos hc10] at h
              refine px_D_st 7 (ip1 := 8) (ls1 := [(6, .inl (px_wr (x6 + 1))), (4, .inl (px_wr (x4 + 1))), (5, .inl (1)), (7, .inl (q3)), (0, .inr (.inr 120)), (1, .inl (x1)), (2, .inl (x2)), (3, .inl (x3))]) (st1 := []) (h1 := (px_G1, s)) rfl ?_
              refine px_D_ls [(0, .inr (.inr 120)), (1, .inl (x1)), (2, .inl (x2)), (3, .inl (x3)), (4, .inl (px_wr (x4 + 1))), (5, .inl (1)), (6, .inl (px_wr (x6 + 1)))] rfl rfl (List.forall_mem_cons.mpr ⟨rfl, List.forall_mem_cons.mpr ⟨rfl, List.forall_mem_cons.mpr ⟨rfl, List.forall_mem_cons.mpr ⟨rfl, List.forall_mem_cons.mpr ⟨rfl, List.forall_mem_cons.mpr ⟨rfl, List.forall_mem_cons.mpr ⟨rfl, fun _ h => absurd h List.not_mem_nil⟩⟩⟩⟩⟩⟩⟩) ?_
              exact ih _ _ _ _ _ _ _ h
def f_Reader_keyword (s : px_Z) (x1 : Int) (x2 : Int) : Option (Int) := l_Reader_keyword_8 s  px_big x1 x2 256 x1 1 0
set_option maxHeartbeats 4000000 in
set_option maxRecDepth 100000 in
theorem c_Reader_keyword {sc : List Int} {d : Nat} {s : px_Z} {x1 : Int} {x2 : Int} {out : Int} (h : f_Reader_keyword s x1 x2 = some out) : px_D sc (d + 0) 46 0 [(0, .inr (.inr 120)), (1, .inl (x1)), (2, .inl (x2))] [] (px_G1, s) (px_Qp s out) := by
  unfold f_Reader_keyword at h
  refine px_D_st 8 (ip1 := 8) (ls1 := [(6, .inl (0)), (5, .inl (1)), (4, .inl (x1)), (3, .inl (256)), (0, .inr (.inr 120)), (1, .inl (x1)), (2, .inl (x2))]) (st1 := []) (h1 := (px_G1, s)) rfl ?_
  refine px_D_ls [(0, .inr (.inr 120)), (1, .inl (x1)), (2, .inl (x2)), (3, .inl (256)), (4, .inl (x1)), (5, .inl (1)), (6, .inl (0))] rfl rfl (List.forall_mem_cons.mpr ⟨rfl, List.forall_mem_cons.mpr ⟨rfl, List.forall_mem_cons.mpr ⟨rfl, List.forall_mem_cons.mpr ⟨rfl, List.forall_mem_cons.mpr ⟨rfl, List.forall_mem_cons.mpr ⟨rfl, List.forall_mem_cons.mpr ⟨rfl, fun _ h => absurd h List.not_mem_nil⟩⟩⟩⟩⟩⟩⟩) ?_
  refine cl_Reader_keyword_8  px_big _ _ _ _ _ _ _ h

def l_Reader_splitOne_16 (k26 : px_Z → Int → Int → Int → Int → Option (Int × px_Z)) : Nat → px_Z → Int → Int → Int → Int → Option (Int × px_Z)
  | 0, _, _, _, _, _ => none
  | n + 1, s, x2, x3, x4, x5 => if (x3) ≤ (x5) then k26 s x2 x3 x4 x5 else (if 0 ≤ (x5) ∧ (x5) < 400 then if (f_Reader_isLetter s (s 120 x5.toNat)) = (0) then k26 s x2 x3 x4 x5 else l_Reader_splitOne_16 k26 n s x2 x3 x4 (px_wr (x5 + 1)) else none)
set_option maxHeartbeats 4000000 in
set_option maxRecDepth 100000 in
theorem cl_Reader_splitOne_16 {sc : List Int} {d : Nat} {k26 : px_Z → Int → Int → Int → Int → Option (Int × px_Z)}  (hk26 : ∀ (s : px_Z) (y2 : Int) (y3 : Int) (y4 : Int) (y5 : Int) (out : Int × px_Z), k26 s y2 y3 y4 y5 = some out → px_D sc (d + 1) 44 26 [(0, .inr (.inr 121)), (1, .inr (.inr 120)), (2, .inl (y2)), (3, .inl (y3)), (4, .inl (y4)), (5, .inl (y5))] [] (px_G1, s) (px_Qi out)) : ∀ (n : Nat) (s : px_Z) (x2 : Int) (x3 : Int) (x4 : Int) (x5 : Int) (out : Int × px_Z), l_Reader_splitOne_16 k26 n s x2 x3 x4 x5 = some out → px_D sc (d + 1) 44 16 [(0, .inr (.inr 121)), (1, .inr (.inr 120)), (2, .inl (x2)), (3, .inl (x3)), (4, .inl (x4)), (5, .inl (x5))] [] (px_G1, s) (px_Qi out) := by
  intro n
  induction n with
  | zero => intro s x2 x3 x4 x5 out h; cases h
  | succ n ih =>
    intro s x2 x3 x4 x5 out h
    rw [l_Reader_splitOne_16] at h
    refine px_D_st 2 (ip1 := 18) (ls1 := [(0, .inr (.inr 121)), (1, .inr (.inr 120)), (2, .inl (x2)), (3, .inl (x3)), (4, .inl (x4)), (5, .inl (x5))]) (st1 := [.inl (x3), .inl (x5)]) (h1 := (px_G1, s)) rfl ?_
    refine px_D_icmp rfl (fun hc => ?_) (fun hc => ?_)
    · have hc4 : (x3) ≤ (x5) := of_decide_eq_true hc
      rw [if_pos hc4] at h
      refine px_D_ls [(0, .inr (.inr 121)), (1, .inr (.inr 120)), (2, .inl (x2)), (3, .inl (x3)), (4, .inl (x4)), (5, .inl (x5))] rfl rfl (List.forall_mem_cons.mpr ⟨rfl, List.forall_mem_cons.mpr ⟨rfl, List.forall_mem_cons.mpr ⟨rfl, List.forall_mem_cons.mpr ⟨rfl, List.forall_mem_cons.mpr ⟨rfl, List.forall_mem_cons.mpr ⟨rfl, fun _ h => absurd h List.not_mem_nil⟩⟩⟩⟩⟩⟩) ?_
      exact hk26 _ _ _ _ _ _ h
    · have hc4 : ¬ ((x3) ≤ (x5)) := of_decide_eq_false hc
      rw [if_neg hc4] at h
      refine px_D_st 2 (ip1 := 21) (ls1 := [(0, .inr (.inr 121)), (1, .inr (.inr 120)), (2, .inl (x2)), (3, .inl (x3)), (4, .inl (x4)), (5, .inl (x5))]) (st1 := [.inl (x5), .inr (.inr 120)]) (h1 := (px_G1, s)) rfl ?_
      by_cases hc5 : 0 ≤ (x5) ∧ (x5) < 400
      case neg => rw [if_neg hc5] at h; cases h
      rw [if_pos hc5] at h
      refine px_D_iald (k := 115) (n := 400) rfl rfl hc5 ?_
      refine px_D_call (as := [.inl (s 120 x5.toNat)]) (rest := []) rfl rfl rfl rfl ?_
      refine px_D_mono (c_Reader_isLetter (d := d + 0) rfl) ?_
      rintro _ _ ⟨rfl, rfl⟩
      show px_D sc (d + 1) 44 23 [(0, .inr (.inr 121)), (1, .inr (.inr 120)), (2, .inl (x2)), (3, .inl (x3)), (4, .inl (x4)), (5, .inl (x5))] [.inl (f_Reader_isLetter s (s 120 x5.toNat))] (px_G1, s) _
      refine px_D_ifc rfl (fun hc => ?_) (fun hc => ?_)
      · have hc6 : (f_Reader_isLetter s (s 120 x5.toNat)) = (0) := of_decide_eq_true hc
        rw [if_pos hc6] at h
        refine px_D_ls [(0, .inr (.inr 121)), (1, .inr (.inr 120)), (2, .inl (x2)), (3, .inl (x3)), (4, .inl (x4)), (5, .inl (x5))] rfl rfl (List.forall_mem_cons.mpr ⟨rfl, List.forall_mem_cons.mpr ⟨rfl, List.forall_mem_cons.mpr ⟨rfl, List.forall_mem_cons.mpr ⟨rfl, List.forall_mem_cons.mpr ⟨rfl, List.forall_mem_cons.mpr ⟨rfl, fun _ h => absurd h List.not_mem_nil⟩⟩⟩⟩⟩⟩) ?_
        exact hk26 _ _ _ _ _ _ h
      · have hc6 : ¬ ((f_Reader_isLetter s (s 120 x5.toNat)) = (0)) := of_decide_eq_false hc
        rw [if_neg hc6] at h
        refine px_D_st 2 (ip1 := 16) (ls1 := [(5, .inl (px_wr (x5 + 1))), (0, .inr (.inr 121)), (1, .inr (.inr 120)), (2, .inl (x2)), (3, .inl (x3)), (4, .inl (x4))]) (st1 := []) (h1 := (px_G1, s)) rfl ?_
        refine px_D_ls [(0, .inr (.inr 121)), (1, .inr (.inr 120)), (2, .inl (x2)), (3, .inl (x3)), (4, .inl (x4)), (5, .inl (px_wr (x5 + 1)))] rfl rfl (List.forall_mem_cons.mpr ⟨rfl, List.forall_mem_cons.mpr ⟨rfl, List.forall_mem_cons.mpr ⟨rfl, List.forall_mem_cons.mpr ⟨rfl, List.forall_mem_cons.mpr ⟨rfl, List.forall_mem_cons.mpr ⟨rfl, fun _ h => absurd h List.not_mem_nil⟩⟩⟩⟩⟩⟩) ?_
        exact ih _ _ _ _ _ _ h
def l_Reader_splitOne_41 (k66 : px_Z → Int → Int → Int → Int → Option (Int × px_Z)) : Nat → px_Z → Int → Int → Int → Int → Int → Option (Int × px_Z)
  | 0, _, _, _, _, _, _ => none
  | n + 1, s, x2, x3, x4, x5, x6 => if (x3) ≤ (x5) then k66 s x2 x4 x5 x6 else (if 0 ≤ (x5) ∧ (x5) < 400 then if (s 120 x5.toNat) < (48) then k66 s x2 x4 x5 x6 else (if 0 ≤ (x5) ∧ (x5) < 400 then if (57) < (s 120 x5.toNat) then k66 s x2 x4 x5 x6 else (if 0 ≤ (x5) ∧ (x5) < 400 then l_Reader_splitOne_41 k66 n s x2 x3 x4 (px_wr (x5 + 1)) (px_wr ((px_wr ((px_wr (x6 * 10)) + (s 120 x5.toNat))) - 48)) else none) else none) else none)
set_option maxHeartbeats 4000000 in
set_option maxRecDepth 100000 in
theorem cl_Reader_splitOne_41 {sc : List Int} {d : Nat} {k66 : px_Z → Int → Int → Int → Int → Option (Int × px_Z)}  (hk66 : ∀ (s : px_Z) (y2 : Int) (y4 : Int) (y5 : Int) (y6 : Int) (out : Int × px_Z), k66 s y2 y4 y5 y6 = some out → px_D sc (d + 1) 44 66 [(0, .inr (.inr 121)), (2, .inl (y2)), (4, .inl (y4)), (5, .inl (y5)), (6, .inl (y6))] [] (px_G1, s) (px_Qi out)) : ∀ (n : Nat) (s : px_Z) (x2 : Int) (x3 : Int) (x4 : Int) (x5 : Int) (x6 : Int) (out : Int × px_Z), l_Reader_splitOne_41 k66 n s x2 x3 x4 x5 x6 = some out → px_D sc (d + 1) 44 41 [(0, .inr (.inr 121)), (1, .inr (.inr 120)), (2, .inl (x2)), (3, .inl (x3)), (4, .inl (x4)), (5, .inl (x5)), (6, .inl (x6))] [] (px_G1, s) (px_Qi out) := by
  intro n
  induction n with
  | zero => intro s x2 x3 x4 x5 x6 out h; cases h
  | succ n ih =>
    intro s x2 x3 x4 x5 x6 out h
    rw [l_Reader_splitOne_41] at h
    refine px_D_st 2 (ip1 := 43) (ls1 := [(0, .inr (.inr 121)), (1, .inr (.inr 120)), (2, .inl (x2)), (3, .inl (x3)), (4, .inl (x4)), (5, .inl (x5)), (6, .inl (x6))]) (st1 := [.inl (x3), .inl (x5)]) (h1 := (px_G1, s)) rfl ?_
    refine px_D_icmp rfl (fun hc => ?_) (fun hc => ?_)
    · have hc8 : (x3) ≤ (x5) := of_decide_eq_true hc
      rw [if_pos hc8] at h
      refine px_D_ls [(0, .inr (.inr 121)), (2, .inl (x2)), (4, .inl (x4)), (5, .inl (x5)), (6, .inl (x6))] rfl rfl (List.forall_mem_cons.mpr ⟨rfl, List.forall_mem_cons.mpr ⟨rfl, List.forall_mem_cons.mpr ⟨rfl, List.forall_mem_cons.mpr ⟨rfl, List.forall_mem_cons.mpr ⟨rfl, fun _ h => absurd h List.not_mem_nil⟩⟩⟩⟩⟩) ?_
      exact hk66 _ _ _ _ _ _ h
    · have hc8 : ¬ ((x3) ≤ (x5)) := of_decide_eq_false hc
      rw [if_neg hc8] at h
      refine px_D_st 2 (ip1 := 46) (ls1 := [(0, .inr (.inr 121)), (1, .inr (.inr 120)), (2, .inl (x2)), (3, .inl (x3)), (4, .inl (x4)), (5, .inl (x5)), (6, .inl (x6))]) (st1 := [.inl (x5), .inr (.inr 120)]) (h1 := (px_G1, s)) rfl ?_
      by_cases hc9 : 0 ≤ (x5) ∧ (x5) < 400
      case neg => rw [if_neg hc9] at h; cases h
      rw [if_pos hc9] at h
      refine px_D_iald (k := 115) (n := 400) rfl rfl hc9 ?_
      refine px_D_st 1 (ip1 := 48) (ls1 := [(0, .inr (.inr 121)), (1, .inr (.inr 120)), (2, .inl (x2)), (3, .inl (x3)), (4, .inl (x4)), (5, .inl (x5)), (6, .inl (x6))]) (st1 := [.inl (48), .inl (s 120 x5.toNat)]) (h1 := (px_G1, s)) rfl ?_
      refine px_D_icmp rfl (fun hc => ?_) (fun hc => ?_)
      · have hc10 : (s 120 x5.toNat) < (48) := of_decide_eq_true hc
        rw [if_pos hc10] at h
        refine px_D_ls [(0, .inr (.inr 121)), (2, .inl (x2)), (4, .inl (x4)), (5, .inl (x5)), (6, .inl (x6))] rfl rfl (List.forall_mem_cons.mpr ⟨rfl, List.forall_mem_cons.mpr ⟨rfl, List.forall_mem_cons.mpr ⟨rfl, List.forall_mem_cons.mpr ⟨rfl, List.forall_mem_cons.mpr ⟨rfl, fun _ h => absurd h List.not_mem_nil⟩⟩⟩⟩⟩) ?_
        exact hk66 _ _ _ _ _ _ h
      · have hc10 : ¬ ((s 120 x5.toNat) < (48)) := of_decide_eq_false hc
        rw [if_neg hc10] at h
        refine px_D_st 2 (ip1 := 51) (ls1 := [(0, .inr (.inr 121)), (1, .inr (.inr 120)), (2, .inl (x2)), (3, .inl (x3)), (4, .inl (x4)), (5, .inl (x5)), (6, .inl (x6))]) (st1 := [.inl (x5), .inr (.inr 120)]) (h1 := (px_G1, s)) rfl ?_
        by_cases hc11 : 0 ≤ (x5) ∧ (x5) < 400
        case neg => rw [if_neg hc11] at h; cases h
        rw [if_pos hc11] at h
        refine px_D_iald (k := 115) (n := 400) rfl rfl hc11 ?_
        refine px_D_st 1 (ip1 := 53) (ls1 := [(0, .inr (.inr 121)), (1, .inr (.inr 120)), (2, .inl (x2)), (3, .inl (x3)), (4, .inl (x4)), (5, .inl (x5)), (6, .inl (x6))]) (st1 := [.inl (57), .inl (s 120 x5.toNat)]) (h1 := (px_G1, s)) rfl ?_
        refine px_D_icmp rfl (fun hc => ?_) (fun hc => ?_)
        · have hc12 : (57) < (s 120 x5.toNat) := of_decide_eq_true hc
          rw [if_pos hc12] at h
          refine px_D_ls [(0, .inr (.inr 121)), (2, .inl (x2)), (4, .inl (x4)), (5, .inl (x5)), (6, .inl (x6))] rfl rfl (List.forall_mem_cons.mpr ⟨rfl, List.forall_mem_cons.mpr ⟨rfl, List.forall_mem_cons.mpr ⟨rfl, List.forall_mem_cons.mpr ⟨rfl, List.forall_mem_cons.mpr ⟨rfl, fun _ h => absurd h List.not_mem_nil⟩⟩⟩⟩⟩) ?_
          exact hk66 _ _ _ _ _ _ h
        · have hc12 : ¬ ((57) < (s 120 x5.toNat)) := of_decide_eq_false hc
          rw [if_neg hc12] at h
          refine px_D_st 5 (ip1 := 59) (ls1 := [(0, .inr (.inr 121)), (1, .inr (.inr 120)), (2, .inl (x2)), (3, .inl (x3)), (4, .inl (x4)), (5, .inl (x5)), (6, .inl (x6))]) (st1 := [.inl (x5), .inr (.inr 120), .inl (px_wr (x6 * 10))]) (h1 := (px_G1, s)) rfl ?_
          by_cases hc13 : 0 ≤ (x5) ∧ (x5) < 400
          case neg => rw [if_neg hc13] at h; cases h
          rw [if_pos hc13] at h
          refine px_D_iald (k := 115) (n := 400) rfl rfl hc13 ?_
          refine px_D_st 6 (ip1 := 41) (ls1 := [(5, .inl (px_wr (x5 + 1))), (6, .inl (px_wr ((px_wr ((px_wr (x6 * 10)) + (s 120 x5.toNat))) - 48))), (0, .inr (.inr 121)), (1, .inr (.inr 120)), (2, .inl (x2)), (3, .inl (x3)), (4, .inl (x4))]) (st1 := []) (h1 := (px_G1, s)) rfl ?_
          refine px_D_ls [(0, .inr (.inr 121)), (1, .inr (.inr 120)), (2, .inl (x2)), (3, .inl (x3)), (4, .inl (x4)), (5, .inl (px_wr (x5 + 1))), (6, .inl (px_wr ((px_wr ((px_wr (x6 * 10)) + (s 120 x5.toNat))) - 48)))] rfl rfl (List.forall_mem_cons.mpr ⟨rfl, List.forall_mem_cons.mpr ⟨rfl, List.forall_mem_cons.mpr ⟨rfl, List.forall_mem_cons.mpr ⟨rfl, List.forall_mem_cons.mpr ⟨rfl, List.forall_mem_cons.mpr ⟨rfl, List.forall_mem_cons.mpr ⟨rfl, fun _ h => absurd h List.not_mem_nil⟩⟩⟩⟩⟩⟩⟩) ?_
          exact ih _ _ _ _ _ _ _ h
def j_Reader_splitOne_j66 (s : px_Z) (x2 : Int) (x4 : Int) (x5 : Int) (x6 : Int) : Option (Int × px_Z) := if (x5) ≤ (x2) then (if (px_io (px_i2c x4) (px_tx 1) 0) < (0) then (f_Reader_addToken s 2 0 x2).bind (fun q16 => some ((px_wr (x2 + 1), q16))) else (f_Reader_addToken s x4 0 x2).bind (fun q17 => some ((px_wr (x2 + 1), q17)))) else (if (4) < (px_wr (x5 - x2)) then (f_Reader_addToken s 2 x6 x2).bind (fun q19 => some (x5, q19)) else (f_Reader_addToken s 1 x6 x2).bind (fun q20 => some (x5, q20)))
set_option maxHeartbeats 4000000 in
set_option maxRecDepth 100000 in
theorem cj_Reader_splitOne_j66 {sc : List Int} {d : Nat} {s : px_Z} {x2 : Int} {x4 : Int} {x5 : Int} {x6 : Int} {out : Int × px_Z} (h : j_Reader_splitOne_j66 s x2 x4 x5 x6 = some out) : px_D sc (d + 1) 44 66 [(0, .inr (.inr 121)), (2, .inl (x2)), (4, .inl (x4)), (5, .inl (x5)), (6, .inl (x6))] [] (px_G1, s) (px_Qi out) := by
  unfold j_Reader_splitOne_j66 at h
  refine px_D_st 2 (ip1 := 68) (ls1 := [(0, .inr (.inr 121)), (2, .inl (x2)), (4, .inl (x4)), (5, .inl (x5)), (6, .inl (x6))]) (st1 := [.inl (x2), .inl (x5)]) (h1 := (px_G1, s)) rfl ?_
  refine px_D_icmp rfl (fun hc => ?_) (fun hc => ?_)
  · have hc14 : (x5) ≤ (x2) := of_decide_eq_true hc
    rw [if_pos hc14] at h
    refine px_D_st 2 (ip1 := 88) (ls1 := [(0, .inr (.inr 121)), (2, .inl (x2)), (4, .inl (x4)), (5, .inl (x5)), (6, .inl (x6))]) (st1 := [.inl (px_io (px_i2c x4) (px_tx 1) 0), .inr (.inr 121)]) (h1 := (px_G1, s)) rfl ?_
    refine px_D_ifc rfl (fun hc => ?_) (fun hc => ?_)
    · have hc15 : (px_io (px_i2c x4) (px_tx 1) 0) < (0) := of_decide_eq_true hc
      rw [if_pos hc15] at h
      refine px_D_st 3 (ip1 := 94) (ls1 := [(0, .inr (.inr 121)), (2, .inl (x2)), (4, .inl (x4)), (5, .inl (x5)), (6, .inl (x6))]) (st1 := [.inl (x2), .inl (0), .inl (2), .inr (.inr 121)]) (h1 := (px_G1, s)) rfl ?_
      refine px_D_call (as := [.inr (.inr 121), .inl (2), .inl (0), .inl (x2)]) (rest := []) rfl rfl rfl rfl ?_
      obtain ⟨q16, hq16, h⟩ := Option.bind_eq_some_iff.mp h
      refine px_D_mono (c_Reader_addToken (d := d + 0) hq16) ?_
      rintro _ _ ⟨rfl, rfl⟩
      show px_D sc (d + 1) 44 95 [(0, .inr (.inr 121)), (2, .inl (x2)), (4, .inl (x4)), (5, .inl (x5)), (6, .inl (x6))] [] (px_G1, q16) _
      refine px_D_st 3 (ip1 := 98) (ls1 := [(0, .inr (.inr 121)), (2, .inl (x2)), (4, .inl (x4)), (5, .inl (x5)), (6, .inl (x6))]) (st1 := [.inl (px_wr (x2 + 1))]) (h1 := (px_G1, q16)) rfl ?_
      cases h
      exact px_D_iret rfl rfl ⟨rfl, rfl⟩
    · have hc15 : ¬ ((px_io (px_i2c x4) (px_tx 1) 0) < (0)) := of_decide_eq_false hc
      rw [if_neg hc15] at h
      refine px_D_st 4 (ip1 := 94) (ls1 := [(0, .inr (.inr 121)), (2, .inl (x2)), (4, .inl (x4)), (5, .inl (x5)), (6, .inl (x6))]) (st1 := [.inl (x2), .inl (0), .inl (x4), .inr (.inr 121)]) (h1 := (px_G1, s)) rfl ?_
      refine px_D_call (as := [.inr (.inr 121), .inl (x4), .inl (0), .inl (x2)]) (rest := []) rfl rfl rfl rfl ?_
      obtain ⟨q17, hq17, h⟩ := Option.bind_eq_some_iff.mp h
      refine px_D_mono (c_Reader_addToken (d := d + 0) hq17) ?_
      rintro _ _ ⟨rfl, rfl⟩
      show px_D sc (d + 1) 44 95 [(0, .inr (.inr 121)), (2, .inl (x2)), (4, .inl (x4)), (5, .inl (x5)), (6, .inl (x6))] [] (px_G1, q17) _
      refine px_D_st 3 (ip1 := 98) (ls1 := [(0, .inr (.inr 121)), (2, .inl (x2)), (4, .inl (x4)), (5, .inl (x5)), (6, .inl (x6))]) (st1 := [.inl (px_wr (x2 + 1))]) (h1 := (px_G1, q17)) rfl ?_
      cases h
      exact px_D_iret rfl rfl ⟨rfl, rfl⟩
  · have hc14 : ¬ ((x5) ≤ (x2)) := of_decide_eq_false hc
    rw [if_neg hc14] at h
    refine px_D_st 5 (ip1 := 74) (ls1 := [(0, .inr (.inr 121)), (2, .inl (x2)), (4, .inl (x4)), (5, .inl (x5)), (6, .inl (x6))]) (st1 := [.inl (4), .inl (px_wr (x5 - x2)), .inr (.inr 121)]) (h1 := (px_G1, s)) rfl ?_
    refine px_D_icmp rfl (fun hc => ?_) (fun hc => ?_)
    · have hc18 : (4) < (px_wr (x5 - x2)) := of_decide_eq_true hc
      rw [if_pos hc18] at h
      refine px_D_st 3 (ip1 := 80) (ls1 := [(0, .inr (.inr 121)), (2, .inl (x2)), (4, .inl (x4)), (5, .inl (x5)), (6, .inl (x6))]) (st1 := [.inl (x2), .inl (x6), .inl (2), .inr (.inr 121)]) (h1 := (px_G1, s)) rfl ?_
      refine px_D_call (as := [.inr (.inr 121), .inl (2), .inl (x6), .inl (x2)]) (rest := []) rfl rfl rfl rfl ?_
      obtain ⟨q19, hq19, h⟩ := Option.bind_eq_some_iff.mp h
      refine px_D_mono (c_Reader_addToken (d := d + 0) hq19) ?_
      rintro _ _ ⟨rfl, rfl⟩
      show px_D sc (d + 1) 44 81 [(0, .inr (.inr 121)), (2, .inl (x2)), (4, .inl (x4)), (5, .inl (x5)), (6, .inl (x6))] [] (px_G1, q19) _
      refine px_D_st 1 (ip1 := 82) (ls1 := [(0, .inr (.inr 121)), (2, .inl (x2)), (4, .inl (x4)), (5, .inl (x5)), (6, .inl (x6))]) (st1 := [.inl (x5)]) (h1 := (px_G1, q19)) rfl ?_
      cases h
      exact px_D_iret rfl rfl ⟨rfl, rfl⟩
    · have hc18 : ¬ ((4) < (px_wr (x5 - x2))) := of_decide_eq_false hc
      rw [if_neg hc18] at h
      refine px_D_st 4 (ip1 := 80) (ls1 := [(0, .inr (.inr 121)), (2, .inl (x2)), (4, .inl (x4)), (5, .inl (x5)), (6, .inl (x6))]) (st1 := [.inl (x2), .inl (x6), .inl (1), .inr (.inr 121)]) (h1 := (px_G1, s)) rfl ?_
      refine px_D_call (as := [.inr (.inr 121), .inl (1), .inl (x6), .inl (x2)]) (rest := []) rfl rfl rfl rfl ?_
      obtain ⟨q20, hq20, h⟩ := Option.bind_eq_some_iff.mp h
      refine px_D_mono (c_Reader_addToken (d := d + 0) hq20) ?_
      rintro _ _ ⟨rfl, rfl⟩
      show px_D sc (d + 1) 44 81 [(0, .inr (.inr 121)), (2, .inl (x2)), (4, .inl (x4)), (5, .inl (x5)), (6, .inl (x6))] [] (px_G1, q20) _
      refine px_D_st 1 (ip1 := 82) (ls1 := [(0, .inr (.inr 121)), (2, .inl (x2)), (4, .inl (x4)), (5, .inl (x5)), (6, .inl (x6))]) (st1 := [.inl (x5)]) (h1 := (px_G1, q20)) rfl ?_
      cases h
      exact px_D_iret rfl rfl ⟨rfl, rfl⟩
def j_Reader_splitOne_j26 (s : px_Z) (x2 : Int) (x3 : Int) (x4 : Int) (x5 : Int) : Option (Int × px_Z) := if (x5) ≤ (x2) then l_Reader_splitOne_41 (fun s x2 x4 x5 x6 => j_Reader_splitOne_j66 s x2 x4 x5 x6) px_big s x2 x3 x4 x5 0 else (f_Reader_keyword s x2 x5).bind (fun q21 => (f_Reader_addToken s q21 0 x2).bind (fun q22 => some (x5, q22)))
set_option maxHeartbeats 4000000 in
set_option maxRecDepth 100000 in
theorem cj_Reader_splitOne_j26 {sc : List Int} {d : Nat} {s : px_Z} {x2 : Int} {x3 : Int} {x4 : Int} {x5 : Int} {out : Int × px_Z} (h : j_Reader_splitOne_j26 s x2 x3 x4 x5 = some out) : px_D sc (d + 1) 44 26 [(0, .inr (.inr 121)), (1, .inr (.inr 120)), (2, .inl (x2)), (3, .inl (x3)), (4, .inl (x4)), (5, .inl (x5))] [] (px_G1, s) (px_Qi out) := by
  unfold j_Reader_splitOne_j26 at h
  refine px_D_st 2 (ip1 := 28) (ls1 := [(0, .inr (.inr 121)), (1, .inr (.inr 120)), (2, .inl (x2)), (3, .inl (x3)), (4, .inl (x4)), (5, .inl (x5))]) (st1 := [.inl (x2), .inl (x5)]) (h1 := (px_G1, s)) rfl ?_
  refine px_D_icmp rfl (fun hc => ?_) (fun hc => ?_)
  · have hc7 : (x5) ≤ (x2) := of_decide_eq_true hc
    rw [if_pos hc7] at h
    refine px_D_st 2 (ip1 := 41) (ls1 := [(6, .inl (0)), (0, .inr (.inr 121)), (1, .inr (.inr 120)), (2, .inl (x2)), (3, .inl (x3)), (4, .inl (x4)), (5, .inl (x5))]) (st1 := []) (h1 := (px_G1, s)) rfl ?_
    refine px_D_ls [(0, .inr (.inr 121)), (1, .inr (.inr 120)), (2, .inl (x2)), (3, .inl (x3)), (4, .inl (x4)), (5, .inl (x5)), (6, .inl (0))] rfl rfl (List.forall_mem_cons.mpr ⟨rfl, List.forall_mem_cons.mpr ⟨rfl, List.forall_mem_cons.mpr ⟨rfl, List.forall_mem_cons.mpr ⟨rfl, List.forall_mem_cons.mpr ⟨rfl, List.forall_mem_cons.mpr ⟨rfl, List.forall_mem_cons.mpr ⟨rfl, fun _ h => absurd h List.not_mem_nil⟩⟩⟩⟩⟩⟩⟩) ?_
    refine cl_Reader_splitOne_41 ?_ px_big _ _ _ _ _ _ _ h
    · intro s x2 x4 x5 x6 out h
      refine px_D_ls [(0, .inr (.inr 121)), (2, .inl (x2)), (4, .inl (x4)), (5, .inl (x5)), (6, .inl (x6))] rfl rfl (List.forall_mem_cons.mpr ⟨rfl, List.forall_mem_cons.mpr ⟨rfl, List.forall_mem_cons.mpr ⟨rfl, List.forall_mem_cons.mpr ⟨rfl, List.forall_mem_cons.mpr ⟨rfl, fun _ h => absurd h List.not_mem_nil⟩⟩⟩⟩⟩) ?_
      exact cj_Reader_splitOne_j66 h
  · have hc7 : ¬ ((x5) ≤ (x2)) := of_decide_eq_false hc
    rw [if_neg hc7] at h
    refine px_D_st 4 (ip1 := 33) (ls1 := [(0, .inr (.inr 121)), (1, .inr (.inr 120)), (2, .inl (x2)), (3, .inl (x3)), (4, .inl (x4)), (5, .inl (x5))]) (st1 := [.inl (x5), .inl (x2), .inr (.inr 120), .inr (.inr 121)]) (h1 := (px_G1, s)) rfl ?_
    refine px_D_call (as := [.inr (.inr 120), .inl (x2), .inl (x5)]) (rest := [.inr (.inr 121)]) rfl rfl rfl rfl ?_
    obtain ⟨q21, hq21, h⟩ := Option.bind_eq_some_iff.mp h
    refine px_D_mono (c_Reader_keyword (d := d + 0) hq21) ?_
    rintro _ _ ⟨rfl, rfl⟩
    show px_D sc (d + 1) 44 34 [(0, .inr (.inr 121)), (1, .inr (.inr 120)), (2, .inl (x2)), (3, .inl (x3)), (4, .inl (x4)), (5, .inl (x5))] [.inl (q21), .inr (.inr 121)] (px_G1, s) _
    refine px_D_st 2 (ip1 := 36) (ls1 := [(0, .inr (.inr 121)), (1, .inr (.inr 120)), (2, .inl (x2)), (3, .inl (x3)), (4, .inl (x4)), (5, .inl (x5))]) (st1 := [.inl (x2), .inl (0), .inl (q21), .inr (.inr 121)]) (h1 := (px_G1, s)) rfl ?_
    refine px_D_call (as := [.inr (.inr 121), .inl (q21), .inl (0), .inl (x2)]) (rest := []) rfl rfl rfl rfl ?_
    obtain ⟨q22, hq22, h⟩ := Option.bind_eq_some_iff.mp h
    refine px_D_mono (c_Reader_addToken (d := d + 0) hq22) ?_
    rintro _ _ ⟨rfl, rfl⟩
    show px_D sc (d + 1) 44 37 [(0, .inr (.inr 121)), (1, .inr (.inr 120)), (2, .inl (x2)), (3, .inl (x3)), (4, .inl (x4)), (5, .inl (x5))] [] (px_G1, q22) _
    refine px_D_st 1 (ip1 := 38) (ls1 := [(0, .inr (.inr 121)), (1, .inr (.inr 120)), (2, .inl (x2)), (3, .inl (x3)), (4, .inl (x4)), (5, .inl (x5))]) (st1 := [.inl (x5)]) (h1 := (px_G1, q22)) rfl ?_
    cases h
    exact px_D_iret rfl rfl ⟨rfl, rfl⟩
def f_Reader_splitOne (s : px_Z) (x2 : Int) (x3 : Int) : Option (Int × px_Z) := if 0 ≤ (x2) ∧ (x2) < 400 then if (s 120 x2.toNat) = (32) then some ((px_wr (x2 + 1), s)) else (if (s 120 x2.toNat) = (10) then some ((px_wr (x2 + 1), s)) else l_Reader_splitOne_16 (fun s x2 x3 x4 x5 => j_Reader_splitOne_j26 s x2 x3 x4 x5) px_big s x2 x3 (s 120 x2.toNat) x2) else none
set_option maxHeartbeats 4000000 in
set_option maxRecDepth 100000 in
theorem c_Reader_splitOne {sc : List Int} {d : Nat} {s : px_Z} {x2 : Int} {x3 : Int} {out : Int × px_Z} (h : f_Reader_splitOne s x2 x3 = some out) : px_D sc (d + 1) 44 0 [(0, .inr (.inr 121)), (1, .inr (.inr 120)), (2, .inl (x2)), (3, .inl (x3))] [] (px_G1, s) (px_Qi out) := by
  unfold f_Reader_splitOne at h
  refine px_D_st 2 (ip1 := 2) (ls1 := [(0, .inr (.inr 121)), (1, .inr (.inr 120)), (2, .inl (x2)), (3, .inl (x3))]) (st1 := [.inl (x2), .inr (.inr 120)]) (h1 := (px_G1, s)) rfl ?_
  by_cases hc1 : 0 ≤ (x2) ∧ (x2) < 400
  case neg => rw [if_neg hc1] at h; cases h
  rw [if_pos hc1] at h
  refine px_D_iald (k := 115) (n := 400) rfl rfl hc1 ?_
  refine px_D_st 3 (ip1 := 6) (ls1 := [(4, .inl (s 120 x2.toNat)), (0, .inr (.inr 121)), (1, .inr (.inr 120)), (2, .inl (x2)), (3, .inl (x3))]) (st1 := [.inl (32), .inl (s 120 x2.toNat)]) (h1 := (px_G1, s)) rfl ?_
  refine px_D_icmp rfl (fun hc => ?_) (fun hc => ?_)
  · have hc2 : (s 120 x2.toNat) = (32) := of_decide_eq_true hc
    rw [if_pos hc2] at h
    refine px_D_st 3 (ip1 := 13) (ls1 := [(4, .inl (s 120 x2.toNat)), (0, .inr (.inr 121)), (1, .inr (.inr 120)), (2, .inl (x2)), (3, .inl (x3))]) (st1 := [.inl (px_wr (x2 + 1))]) (h1 := (px_G1, s)) rfl ?_
    cases h
    exact px_D_iret rfl rfl ⟨rfl, rfl⟩
  · have hc2 : ¬ ((s 120 x2.toNat) = (32)) := of_decide_eq_false hc
    rw [if_neg hc2] at h
    refine px_D_st 2 (ip1 := 9) (ls1 := [(4, .inl (s 120 x2.toNat)), (0, .inr (.inr 121)), (1, .inr (.inr 120)), (2, .inl (x2)), (3, .inl (x3))]) (st1 := [.inl (10), .inl (s 120 x2.toNat)]) (h1 := (px_G1, s)) rfl ?_
    refine px_D_icmp rfl (fun hc => ?_) (fun hc => ?_)
    · have hc3 : ¬ ((s 120 x2.toNat) = (10)) := of_decide_eq_true hc
      rw [if_neg hc3] at h
      refine px_D_st 2 (ip1 := 16) (ls1 := [(5, .inl (x2)), (4, .inl (s 120 x2.toNat)), (0, .inr (.inr 121)), (1, .inr (.inr 120)), (2, .inl (x2)), (3, .inl (x3))]) (st1 := []) (h1 := (px_G1, s)) rfl ?_
      refine px_D_ls [(0, .inr (.inr 121)), (1, .inr (.inr 120)), (2, .inl (x2)), (3, .inl (x3)), (4, .inl (s 120 x2.toNat)), (5, .inl (x2))] rfl rfl (List.forall_mem_cons.mpr ⟨rfl, List.forall_mem_cons.mpr ⟨rfl, List.forall_mem_cons.mpr ⟨rfl, List.forall_mem_cons.mpr ⟨rfl, List.forall_mem_cons.mpr ⟨rfl, List.forall_mem_cons.mpr ⟨rfl, fun _ h => absurd h List.not_mem_nil⟩⟩⟩⟩⟩⟩) ?_
      refine cl_Reader_splitOne_16 ?_ px_big _ _ _ _ _ _ h
      · intro s x2 x3 x4 x5 out h
        refine px_D_ls [(0, .inr (.inr 121)), (1, .inr (.inr 120)), (2, .inl (x2)), (3, .inl (x3)), (4, .inl (x4)), (5, .inl (x5))] rfl rfl (List.forall_mem_cons.mpr ⟨rfl, List.forall_mem_cons.mpr ⟨rfl, List.forall_mem_cons.mpr ⟨rfl, List.forall_mem_cons.mpr ⟨rfl, List.forall_mem_cons.mpr ⟨rfl, List.forall_mem_cons.mpr ⟨rfl, fun _ h => absurd h List.not_mem_nil⟩⟩⟩⟩⟩⟩) ?_
        exact cj_Reader_splitOne_j26 h
    · have hc3 : (s 120 x2.toNat) = (10) := Decidable.of_not_not (of_decide_eq_false hc)
      rw [if_pos hc3] at h
      refine px_D_st 3 (ip1 := 13) (ls1 := [(4, .inl (s 120 x2.toNat)), (0, .inr (.inr 121)), (1, .inr (.inr 120)), (2, .inl (x2)), (3, .inl (x3))]) (st1 := [.inl (px_wr (x2 + 1))]) (h1 := (px_G1, s)) rfl ?_
      cases h
      exact px_D_iret rfl rfl ⟨rfl, rfl⟩

def l_Reader_split_19 (k33 : px_Z → Int → Option (px_Z)) : Nat → px_Z → Int → Int → Int → Option (px_Z)
  | 0, _, _, _, _ => none
  | n + 1, s, x2, x4, x5 => if (x2) ≤ (x5) then k33 s x2 else (if (x2) ≤ (x4) then k33 s x2 else (f_Reader_splitOne s x4 x2).bind (fun q3 => l_Reader_split_19 k33 n q3.2 x2 q3.1 (px_wr (x5 + 1))))
set_option maxHeartbeats 4000000 in
set_option maxRecDepth 100000 in
theorem cl_Reader_split_19 {sc : List Int} {d : Nat} {k33 : px_Z → Int → Option (px_Z)}  (hk33 : ∀ (s : px_Z) (y2 : Int) (out : px_Z), k33 s y2 = some out → px_D sc (d + 2) 42 33 [(0, .inr (.inr 121)), (2, .inl (y2))] [] (px_G1, s) (px_Qv out)) : ∀ (n : Nat) (s : px_Z) (x2 : Int) (x4 : Int) (x5 : Int) (out : px_Z), l_Reader_split_19 k33 n s x2 x4 x5 = some out → px_D sc (d + 2) 42 19 [(0, .inr (.inr 121)), (1, .inr (.inr 120)), (2, .inl (x2)), (4, .inl (x4)), (5, .inl (x5))] [] (px_G1, s) (px_Qv out) := by
  intro n
  induction n with
  | zero => intro s x2 x4 x5 out h; cases h
  | succ n ih =>
    intro s x2 x4 x5 out h
    rw [l_Reader_split_19] at h
    refine px_D_st 2 (ip1 := 21) (ls1 := [(0, .inr (.inr 121)), (1, .inr (.inr 120)), (2, .inl (x2)), (4, .inl (x4)), (5, .inl (x5))]) (st1 := [.inl (x2), .inl (x5)]) (h1 := (px_G1, s)) rfl ?_
    refine px_D_icmp rfl (fun hc => ?_) (fun hc => ?_)
    · have hc1 : (x2) ≤ (x5) := of_decide_eq_true hc
      rw [if_pos hc1] at h
      refine px_D_ls [(0, .inr (.inr 121)), (2, .inl (x2))] rfl rfl (List.forall_mem_cons.mpr ⟨rfl, List.forall_mem_cons.mpr ⟨rfl, fun _ h => absurd h List.not_mem_nil⟩⟩) ?_
      exact hk33 _ _ _ h
    · have hc1 : ¬ ((x2) ≤ (x5)) := of_decide_eq_false hc
      rw [if_neg hc1] at h
      refine px_D_st 2 (ip1 := 24) (ls1 := [(0, .inr (.inr 121)), (1, .inr (.inr 120)), (2, .inl (x2)), (4, .inl (x4)), (5, .inl (x5))]) (st1 := [.inl (x2), .inl (x4)]) (h1 := (px_G1, s)) rfl ?_
      refine px_D_icmp rfl (fun hc => ?_) (fun hc => ?_)
      · have hc2 : (x2) ≤ (x4) := of_decide_eq_true hc
        rw [if_pos hc2] at h
        refine px_D_ls [(0, .inr (.inr 121)), (2, .inl (x2))] rfl rfl (List.forall_mem_cons.mpr ⟨rfl, List.forall_mem_cons.mpr ⟨rfl, fun _ h => absurd h List.not_mem_nil⟩⟩) ?_
        exact hk33 _ _ _ h
      · have hc2 : ¬ ((x2) ≤ (x4)) := of_decide_eq_false hc
        rw [if_neg hc2] at h
        refine px_D_st 4 (ip1 := 29) (ls1 := [(0, .inr (.inr 121)), (1, .inr (.inr 120)), (2, .inl (x2)), (4, .inl (x4)), (5, .inl (x5))]) (st1 := [.inl (x2), .inl (x4), .inr (.inr 120), .inr (.inr 121)]) (h1 := (px_G1, s)) rfl ?_
        refine px_D_call (as := [.inr (.inr 121), .inr (.inr 120), .inl (x4), .inl (x2)]) (rest := []) rfl rfl rfl rfl ?_
        obtain ⟨q3, hq3, h⟩ := Option.bind_eq_some_iff.mp h
        refine px_D_mono (c_Reader_splitOne (d := d + 0) hq3) ?_
        rintro _ _ ⟨rfl, rfl⟩
        show px_D sc (d + 2) 42 30 [(0, .inr (.inr 121)), (1, .inr (.inr 120)), (2, .inl (x2)), (4, .inl (x4)), (5, .inl (x5))] [.inl (q3.1)] (px_G1, q3.2) _
        refine px_D_st 3 (ip1 := 19) (ls1 := [(5, .inl (px_wr (x5 + 1))), (4, .inl (q3.1)), (0, .inr (.inr 121)), (1, .inr (.inr 120)), (2, .inl (x2))]) (st1 := []) (h1 := (px_G1, q3.2)) rfl ?_
        refine px_D_ls [(0, .inr (.inr 121)), (1, .inr (.inr 120)), (2, .inl (x2)), (4, .inl (q3.1)), (5, .inl (px_wr (x5 + 1)))] rfl rfl (List.forall_mem_cons.mpr ⟨rfl, List.forall_mem_cons.mpr ⟨rfl, List.forall_mem_cons.mpr ⟨rfl, List.forall_mem_cons.mpr ⟨rfl, List.forall_mem_cons.mpr ⟨rfl, fun _ h => absurd h List.not_mem_nil⟩⟩⟩⟩⟩) ?_
        exact ih _ _ _ _ _ h
def f_Reader_split (s : px_Z) (x2 : Int) (x3 : Int) : Option (px_Z) := l_Reader_split_19 (fun s x2 => (f_Reader_addToken s 0 0 x2).bind (fun q4 => some q4)) px_big (px_up (px_up (px_up (px_up (px_up s 121 5 x3) 121 7 0) 121 8 (-1)) 121 3 0) 121 4 0) x2 0 0
set_option maxHeartbeats 4000000 in
set_option maxRecDepth 100000 in
theorem c_Reader_split {sc : List Int} {d : Nat} {s : px_Z} {x2 : Int} {x3 : Int} {out : px_Z} (h : f_Reader_split s x2 x3 = some out) : px_D sc (d + 2) 42 0 [(0, .inr (.inr 121)), (1, .inr (.inr 120)), (2, .inl (x2)), (3, .inl (x3))] [] (px_G1, s) (px_Qv out) := by
  unfold f_Reader_split at h
  refine px_D_st 19 (ip1 := 19) (ls1 := [(5, .inl (0)), (4, .inl (0)), (0, .inr (.inr 121)), (1, .inr (.inr 120)), (2, .inl (x2)), (3, .inl (x3))]) (st1 := []) (h1 := (px_G1, px_up (px_up (px_up (px_up (px_up s 121 5 x3) 121 7 0) 121 8 (-1)) 121 3 0) 121 4 0)) rfl ?_
  refine px_D_ls [(0, .inr (.inr 121)), (1, .inr (.inr 120)), (2, .inl (x2)), (4, .inl (0)), (5, .inl (0))] rfl rfl (List.forall_mem_cons.mpr ⟨rfl, List.forall_mem_cons.mpr ⟨rfl, List.forall_mem_cons.mpr ⟨rfl, List.forall_mem_cons.mpr ⟨rfl, List.forall_mem_cons.mpr ⟨rfl, fun _ h => absurd h List.not_mem_nil⟩⟩⟩⟩⟩) ?_
  refine cl_Reader_split_19 ?_ px_big _ _ _ _ _ h
  · intro s x2 out h
    refine px_D_st 4 (ip1 := 37) (ls1 := [(0, .inr (.inr 121)), (2, .inl (x2))]) (st1 := [.inl (x2), .inl (0), .inl (0), .inr (.inr 121)]) (h1 := (px_G1, s)) rfl ?_
    refine px_D_call (as := [.inr (.inr 121), .inl (0), .inl (0), .inl (x2)]) (rest := []) rfl rfl rfl rfl ?_
    obtain ⟨q4, hq4, h⟩ := Option.bind_eq_some_iff.mp h
    refine px_D_mono (c_Reader_addToken (d := d + 1) hq4) ?_
    rintro _ _ ⟨rfl, rfl⟩
    show px_D sc (d + 2) 42 38 [(0, .inr (.inr 121)), (2, .inl (x2))] [] (px_G1, q4) _
    cases h
    exact px_D_vret rfl ⟨rfl, rfl⟩

def f_Plan_addDeed (s : px_Z) (x1 : Int) (x2 : Int) (x3 : Int) : Option (px_Z) := if (60) ≤ (s 138 0) then some (px_up s 138 0 (px_wr ((s 138 0) + 1))) else (if 0 ≤ (s 138 0) ∧ (s 138 0) < 60 then if 0 ≤ ((px_up s 139 (s 138 0).toNat x1) 138 0) ∧ ((px_up s 139 (s 138 0).toNat x1) 138 0) < 60 then if 0 ≤ ((px_up (px_up s 139 (s 138 0).toNat x1) 140 ((px_up s 139 (s 138 0).toNat x1) 138 0).toNat x2) 138 0) ∧ ((px_up (px_up s 139 (s 138 0).toNat x1) 140 ((px_up s 139 (s 138 0).toNat x1) 138 0).toNat x2) 138 0) < 60 then some (px_up (px_up (px_up (px_up s 139 (s 138 0).toNat x1) 140 ((px_up s 139 (s 138 0).toNat x1) 138 0).toNat x2) 141 ((px_up (px_up s 139 (s 138 0).toNat x1) 140 ((px_up s 139 (s 138 0).toNat x1) 138 0).toNat x2) 138 0).toNat x3) 138 0 (px_wr (((px_up (px_up (px_up s 139 (s 138 0).toNat x1) 140 ((px_up s 139 (s 138 0).toNat x1) 138 0).toNat x2) 141 ((px_up (px_up s 139 (s 138 0).toNat x1) 140 ((px_up s 139 (s 138 0).toNat x1) 138 0).toNat x2) 138 0).toNat x3) 138 0) + 1))) else none else none else none)
set_option maxHeartbeats 4000000 in
set_option maxRecDepth 100000 in
theorem c_Plan_addDeed {sc : List Int} {d : Nat} {s : px_Z} {x1 : Int} {x2 : Int} {x3 : Int} {out : px_Z} (h : f_Plan_addDeed s x1 x2 x3 = some out) : px_D sc (d + 0) 39 0 [(0, .inr (.inr 138)), (1, .inl (x1)), (2, .inl (x2)), (3, .inl (x3))] [] (px_G1, s) (px_Qv out) := by
  unfold f_Plan_addDeed at h
  refine px_D_st 3 (ip1 := 3) (ls1 := [(0, .inr (.inr 138)), (1, .inl (x1)), (2, .inl (x2)), (3, .inl (x3))]) (st1 := [.inl (60), .inl (s 138 0)]) (h1 := (px_G1, s)) rfl ?_
  refine px_D_icmp rfl (fun hc => ?_) (fun hc => ?_)
  · have hc1 : (60) ≤ (s 138 0) := of_decide_eq_true hc
    rw [if_pos hc1] at h
    refine px_D_st 6 (ip1 := 28) (ls1 := [(0, .inr (.inr 138)), (1, .inl (x1)), (2, .inl (x2)), (3, .inl (x3))]) (st1 := []) (h1 := (px_G1, px_up s 138 0 (px_wr ((s 138 0) + 1)))) rfl ?_
    cases h
    exact px_D_vret rfl ⟨rfl, rfl⟩
  · have hc1 : ¬ ((60) ≤ (s 138 0)) := of_decide_eq_false hc
    rw [if_neg hc1] at h
    refine px_D_st 5 (ip1 := 9) (ls1 := [(0, .inr (.inr 138)), (1, .inl (x1)), (2, .inl (x2)), (3, .inl (x3))]) (st1 := [.inl (x1), .inl (s 138 0), .inr (.inr 139)]) (h1 := (px_G1, s)) rfl ?_
    by_cases hc2 : 0 ≤ (s 138 0) ∧ (s 138 0) < 60
    case neg => rw [if_neg hc2] at h; cases h
    rw [if_pos hc2] at h
    refine px_D_iast (k := 134) (n := 60) rfl rfl hc2 ?_
    refine px_D_st 5 (ip1 := 15) (ls1 := [(0, .inr (.inr 138)), (1, .inl (x1)), (2, .inl (x2)), (3, .inl (x3))]) (st1 := [.inl (x2), .inl ((px_up s 139 (s 138 0).toNat x1) 138 0), .inr (.inr 140)]) (h1 := (px_G1, px_up s 139 (s 138 0).toNat x1)) rfl ?_
    by_cases hc3 : 0 ≤ ((px_up s 139 (s 138 0).toNat x1) 138 0) ∧ ((px_up s 139 (s 138 0).toNat x1) 138 0) < 60
    case neg => rw [if_neg hc3] at h; cases h
    rw [if_pos hc3] at h
    refine px_D_iast (k := 135) (n := 60) rfl rfl hc3 ?_
    refine px_D_st 5 (ip1 := 21) (ls1 := [(0, .inr (.inr 138)), (1, .inl (x1)), (2, .inl (x2)), (3, .inl (x3))]) (st1 := [.inl (x3), .inl ((px_up (px_up s 139 (s 138 0).toNat x1) 140 ((px_up s 139 (s 138 0).toNat x1) 138 0).toNat x2) 138 0), .inr (.inr 141)]) (h1 := (px_G1, px_up (px_up s 139 (s 138 0).toNat x1) 140 ((px_up s 139 (s 138 0).toNat x1) 138 0).toNat x2)) rfl ?_
    by_cases hc4 : 0 ≤ ((px_up (px_up s 139 (s 138 0).toNat x1) 140 ((px_up s 139 (s 138 0).toNat x1) 138 0).toNat x2) 138 0) ∧ ((px_up (px_up s 139 (s 138 0).toNat x1) 140 ((px_up s 139 (s 138 0).toNat x1) 138 0).toNat x2) 138 0) < 60
    case neg => rw [if_neg hc4] at h; cases h
    rw [if_pos hc4] at h
    refine px_D_iast (k := 136) (n := 60) rfl rfl hc4 ?_
    refine px_D_st 6 (ip1 := 28) (ls1 := [(0, .inr (.inr 138)), (1, .inl (x1)), (2, .inl (x2)), (3, .inl (x3))]) (st1 := []) (h1 := (px_G1, px_up (px_up (px_up (px_up s 139 (s 138 0).toNat x1) 140 ((px_up s 139 (s 138 0).toNat x1) 138 0).toNat x2) 141 ((px_up (px_up s 139 (s 138 0).toNat x1) 140 ((px_up s 139 (s 138 0).toNat x1) 138 0).toNat x2) 138 0).toNat x3) 138 0 (px_wr (((px_up (px_up (px_up s 139 (s 138 0).toNat x1) 140 ((px_up s 139 (s 138 0).toNat x1) 138 0).toNat x2) 141 ((px_up (px_up s 139 (s 138 0).toNat x1) 140 ((px_up s 139 (s 138 0).toNat x1) 138 0).toNat x2) 138 0).toNat x3) 138 0) + 1)))) rfl ?_
    cases h
    exact px_D_vret rfl ⟨rfl, rfl⟩

def f_Reader_readDeed (s : px_Z) (x1 : Int) : Option (px_Z) := if (x1) = (280) then (f_Reader_numberWithin s 0 (px_wr ((s 121 5) - 1))).bind (fun q5 => (f_Reader_expect q5.2 278).bind (fun q6 => (f_Reader_numberWithin q6 0 5).bind (fun q7 => (f_Plan_addDeed q7.2 x1 q5.1 q7.1).bind (fun q8 => (f_Reader_expect q8 59).bind (fun q9 => some q9))))) else (f_Reader_numberWithin s 1 20).bind (fun q2 => (f_Plan_addDeed q2.2 x1 q2.1 (-1)).bind (fun q3 => (f_Reader_expect q3 59).bind (fun q4 => some q4)))
set_option maxHeartbeats 4000000 in
set_option maxRecDepth 100000 in
theorem c_Reader_readDeed {sc : List Int} {d : Nat} {s : px_Z} {x1 : Int} {out : px_Z} (h : f_Reader_readDeed s x1 = some out) : px_D sc (d + 2) 65 0 [(0, .inr (.inr 121)), (1, .inl (x1))] [] (px_G1, s) (px_Qv out) := by
  unfold f_Reader_readDeed at h
  refine px_D_st 2 (ip1 := 2) (ls1 := [(0, .inr (.inr 121)), (1, .inl (x1))]) (st1 := [.inl (280), .inl (x1)]) (h1 := (px_G1, s)) rfl ?_
  refine px_D_icmp rfl (fun hc => ?_) (fun hc => ?_)
  · have hc1 : ¬ ((x1) = (280)) := of_decide_eq_true hc
    rw [if_neg hc1] at h
    refine px_D_st 6 (ip1 := 30) (ls1 := [(0, .inr (.inr 121)), (1, .inl (x1))]) (st1 := [.inl (20), .inl (1), .inr (.inr 121), .inl (x1), .inr (.inr 138)]) (h1 := (px_G1, s)) rfl ?_
    refine px_D_call (as := [.inr (.inr 121), .inl (1), .inl (20)]) (rest := [.inl (x1), .inr (.inr 138)]) rfl rfl rfl rfl ?_
    obtain ⟨q2, hq2, h⟩ := Option.bind_eq_some_iff.mp h
    refine px_D_mono (c_Reader_numberWithin (d := d + 0) hq2) ?_
    rintro _ _ ⟨rfl, rfl⟩
    show px_D sc (d + 2) 65 31 [(0, .inr (.inr 121)), (1, .inl (x1))] [.inl (q2.1), .inl (x1), .inr (.inr 138)] (px_G1, q2.2) _
    refine px_D_st 1 (ip1 := 32) (ls1 := [(0, .inr (.inr 121)), (1, .inl (x1))]) (st1 := [.inl ((-1)), .inl (q2.1), .inl (x1), .inr (.inr 138)]) (h1 := (px_G1, q2.2)) rfl ?_
    refine px_D_call (as := [.inr (.inr 138), .inl (x1), .inl (q2.1), .inl ((-1))]) (rest := []) rfl rfl rfl rfl ?_
    obtain ⟨q3, hq3, h⟩ := Option.bind_eq_some_iff.mp h
    refine px_D_mono (c_Plan_addDeed (d := d + 1) hq3) ?_
    rintro _ _ ⟨rfl, rfl⟩
    show px_D sc (d + 2) 65 33 [(0, .inr (.inr 121)), (1, .inl (x1))] [] (px_G1, q3) _
    refine px_D_st 2 (ip1 := 35) (ls1 := [(0, .inr (.inr 121)), (1, .inl (x1))]) (st1 := [.inl (59), .inr (.inr 121)]) (h1 := (px_G1, q3)) rfl ?_
    refine px_D_call (as := [.inr (.inr 121), .inl (59)]) (rest := []) rfl rfl rfl rfl ?_
    obtain ⟨q4, hq4, h⟩ := Option.bind_eq_some_iff.mp h
    refine px_D_mono (c_Reader_expect (d := d + 0) hq4) ?_
    rintro _ _ ⟨rfl, rfl⟩
    show px_D sc (d + 2) 65 36 [(0, .inr (.inr 121)), (1, .inl (x1))] [] (px_G1, q4) _
    cases h
    exact px_D_vret rfl ⟨rfl, rfl⟩
  · have hc1 : (x1) = (280) := Decidable.of_not_not (of_decide_eq_false hc)
    rw [if_pos hc1] at h
    refine px_D_st 6 (ip1 := 9) (ls1 := [(0, .inr (.inr 121)), (1, .inl (x1))]) (st1 := [.inl (px_wr ((s 121 5) - 1)), .inl (0), .inr (.inr 121)]) (h1 := (px_G1, s)) rfl ?_
    refine px_D_call (as := [.inr (.inr 121), .inl (0), .inl (px_wr ((s 121 5) - 1))]) (rest := []) rfl rfl rfl rfl ?_
    obtain ⟨q5, hq5, h⟩ := Option.bind_eq_some_iff.mp h
    refine px_D_mono (c_Reader_numberWithin (d := d + 0) hq5) ?_
    rintro _ _ ⟨rfl, rfl⟩
    show px_D sc (d + 2) 65 10 [(0, .inr (.inr 121)), (1, .inl (x1))] [.inl (q5.1)] (px_G1, q5.2) _
    refine px_D_st 3 (ip1 := 13) (ls1 := [(2, .inl (q5.1)), (0, .inr (.inr 121)), (1, .inl (x1))]) (st1 := [.inl (278), .inr (.inr 121)]) (h1 := (px_G1, q5.2)) rfl ?_
    refine px_D_call (as := [.inr (.inr 121), .inl (278)]) (rest := []) rfl rfl rfl rfl ?_
    obtain ⟨q6, hq6, h⟩ := Option.bind_eq_some_iff.mp h
    refine px_D_mono (c_Reader_expect (d := d + 0) hq6) ?_
    rintro _ _ ⟨rfl, rfl⟩
    show px_D sc (d + 2) 65 14 [(2, .inl (q5.1)), (0, .inr (.inr 121)), (1, .inl (x1))] [] (px_G1, q6) _
    refine px_D_st 7 (ip1 := 21) (ls1 := [(2, .inl (q5.1)), (0, .inr (.inr 121)), (1, .inl (x1))]) (st1 := [.inl (5), .inl (0), .inr (.inr 121), .inl (q5.1), .inl (x1), .inr (.inr 138)]) (h1 := (px_G1, q6)) rfl ?_
    refine px_D_call (as := [.inr (.inr 121), .inl (0), .inl (5)]) (rest := [.inl (q5.1), .inl (x1), .inr (.inr 138)]) rfl rfl rfl rfl ?_
    obtain ⟨q7, hq7, h⟩ := Option.bind_eq_some_iff.mp h
    refine px_D_mono (c_Reader_numberWithin (d := d + 0) hq7) ?_
    rintro _ _ ⟨rfl, rfl⟩
    show px_D sc (d + 2) 65 22 [(2, .inl (q5.1)), (0, .inr (.inr 121)), (1, .inl (x1))] [.inl (q7.1), .inl (q5.1), .inl (x1), .inr (.inr 138)] (px_G1, q7.2) _
    refine px_D_call (as := [.inr (.inr 138), .inl (x1), .inl (q5.1), .inl (q7.1)]) (rest := []) rfl rfl rfl rfl ?_
    obtain ⟨q8, hq8, h⟩ := Option.bind_eq_some_iff.mp h
    refine px_D_mono (c_Plan_addDeed (d := d + 1) hq8) ?_
    rintro _ _ ⟨rfl, rfl⟩
    show px_D sc (d + 2) 65 23 [(2, .inl (q5.1)), (0, .inr (.inr 121)), (1, .inl (x1))] [] (px_G1, q8) _
    refine px_D_st 3 (ip1 := 35) (ls1 := [(2, .inl (q5.1)), (0, .inr (.inr 121)), (1, .inl (x1))]) (st1 := [.inl (59), .inr (.inr 121)]) (h1 := (px_G1, q8)) rfl ?_
    refine px_D_call (as := [.inr (.inr 121), .inl (59)]) (rest := []) rfl rfl rfl rfl ?_
    obtain ⟨q9, hq9, h⟩ := Option.bind_eq_some_iff.mp h
    refine px_D_mono (c_Reader_expect (d := d + 0) hq9) ?_
    rintro _ _ ⟨rfl, rfl⟩
    show px_D sc (d + 2) 65 36 [(2, .inl (q5.1)), (0, .inr (.inr 121)), (1, .inl (x1))] [] (px_G1, q9) _
    cases h
    exact px_D_vret rfl ⟨rfl, rfl⟩

def l_Plan_repeat_14  : Nat → px_Z → Int → Int → Int → Option (px_Z)
  | 0, _, _, _, _ => none
  | n + 1, s, x3, x4, x5 => if (x3) ≤ (0) then some (px_up s 138 0 x4) else (if (x4) ≤ (x5) then some (px_up s 138 0 x4) else (if (60) ≤ (x5) then some (px_up s 138 0 x4) else (if 0 ≤ (px_wr (x5 - x3)) ∧ (px_wr (x5 - x3)) < 60 then if 0 ≤ (x5) ∧ (x5) < 60 then if 0 ≤ (px_wr (x5 - x3)) ∧ (px_wr (x5 - x3)) < 60 then if 0 ≤ (x5) ∧ (x5) < 60 then if 0 ≤ (px_wr (x5 - x3)) ∧ (px_wr (x5 - x3)) < 60 then if 0 ≤ (x5) ∧ (x5) < 60 then l_Plan_repeat_14  n (px_up (px_up (px_up s 139 x5.toNat (s 139 (px_wr (x5 - x3)).toNat)) 140 x5.toNat ((px_up s 139 x5.toNat (s 139 (px_wr (x5 - x3)).toNat)) 140 (px_wr (x5 - x3)).toNat)) 141 x5.toNat ((px_up (px_up s 139 x5.toNat (s 139 (px_wr (x5 - x3)).toNat)) 140 x5.toNat ((px_up s 139 x5.toNat (s 139 (px_wr (x5 - x3)).toNat)) 140 (px_wr (x5 - x3)).toNat)) 141 (px_wr (x5 - x3)).toNat)) x3 x4 (px_wr (x5 + 1)) else none else none else none else none else none else none)))
set_option maxHeartbeats 4000000 in
set_option maxRecDepth 100000 in
theorem cl_Plan_repeat_14 {sc : List Int} {d : Nat}  : ∀ (n : Nat) (s : px_Z) (x3 : Int) (x4 : Int) (x5 : Int) (out : px_Z), l_Plan_repeat_14  n s x3 x4 x5 = some out → px_D sc (d + 0) 40 14 [(0, .inr (.inr 138)), (3, .inl (x3)), (4, .inl (x4)), (5, .inl (x5))] [] (px_G1, s) (px_Qv out) := by
  intro n
  induction n with
  | zero => intro s x3 x4 x5 out h; cases h
  | succ n ih =>
    intro s x3 x4 x5 out h
    rw [l_Plan_repeat_14] at h
    refine px_D_st 1 (ip1 := 15) (ls1 := [(0, .inr (.inr 138)), (3, .inl (x3)), (4, .inl (x4)), (5, .inl (x5))]) (st1 := [.inl (x3)]) (h1 := (px_G1, s)) rfl ?_
    refine px_D_ifc rfl (fun hc => ?_) (fun hc => ?_)
    · have hc1 : (x3) ≤ (0) := of_decide_eq_true hc
      rw [if_pos hc1] at h
      refine px_D_st 3 (ip1 := 57) (ls1 := [(0, .inr (.inr 138)), (3, .inl (x3)), (4, .inl (x4)), (5, .inl (x5))]) (st1 := []) (h1 := (px_G1, px_up s 138 0 x4)) rfl ?_
      cases h
      exact px_D_vret rfl ⟨rfl, rfl⟩
    · have hc1 : ¬ ((x3) ≤ (0)) := of_decide_eq_false hc
      rw [if_neg hc1] at h
      refine px_D_st 2 (ip1 := 18) (ls1 := [(0, .inr (.inr 138)), (3, .inl (x3)), (4, .inl (x4)), (5, .inl (x5))]) (st1 := [.inl (x4), .inl (x5)]) (h1 := (px_G1, s)) rfl ?_
      refine px_D_icmp rfl (fun hc => ?_) (fun hc => ?_)
      · have hc2 : (x4) ≤ (x5) := of_decide_eq_true hc
        rw [if_pos hc2] at h
        refine px_D_st 3 (ip1 := 57) (ls1 := [(0, .inr (.inr 138)), (3, .inl (x3)), (4, .inl (x4)), (5, .inl (x5))]) (st1 := []) (h1 := (px_G1, px_up s 138 0 x4)) rfl ?_
        cases h
        exact px_D_vret rfl ⟨rfl, rfl⟩
      · have hc2 : ¬ ((x4) ≤ (x5)) := of_decide_eq_false hc
        rw [if_neg hc2] at h
        refine px_D_st 2 (ip1 := 21) (ls1 := [(0, .inr (.inr 138)), (3, .inl (x3)), (4, .inl (x4)), (5, .inl (x5))]) (st1 := [.inl (60), .inl (x5)]) (h1 := (px_G1, s)) rfl ?_
        refine px_D_icmp rfl (fun hc => ?_) (fun hc => ?_)
        · have hc3 : (60) ≤ (x5) := of_decide_eq_true hc
          rw [if_pos hc3] at h
          refine px_D_st 3 (ip1 := 57) (ls1 := [(0, .inr (.inr 138)), (3, .inl (x3)), (4, .inl (x4)), (5, .inl (x5))]) (st1 := []) (h1 := (px_G1, px_up s 138 0 x4)) rfl ?_
          cases h
          exact px_D_vret rfl ⟨rfl, rfl⟩
        · have hc3 : ¬ ((60) ≤ (x5)) := of_decide_eq_false hc
          rw [if_neg hc3] at h
          refine px_D_st 8 (ip1 := 30) (ls1 := [(0, .inr (.inr 138)), (3, .inl (x3)), (4, .inl (x4)), (5, .inl (x5))]) (st1 := [.inl (px_wr (x5 - x3)), .inr (.inr 139), .inl (x5), .inr (.inr 139)]) (h1 := (px_G1, s)) rfl ?_
          by_cases hc4 : 0 ≤ (px_wr (x5 - x3)) ∧ (px_wr (x5 - x3)) < 60
          case neg => rw [if_neg hc4] at h; cases h
          rw [if_pos hc4] at h
          refine px_D_iald (k := 134) (n := 60) rfl rfl hc4 ?_
          by_cases hc5 : 0 ≤ (x5) ∧ (x5) < 60
          case neg => rw [if_neg hc5] at h; cases h
          rw [if_pos hc5] at h
          refine px_D_iast (k := 134) (n := 60) rfl rfl hc5 ?_
          refine px_D_st 8 (ip1 := 40) (ls1 := [(0, .inr (.inr 138)), (3, .inl (x3)), (4, .inl (x4)), (5, .inl (x5))]) (st1 := [.inl (px_wr (x5 - x3)), .inr (.inr 140), .inl (x5), .inr (.inr 140)]) (h1 := (px_G1, px_up s 139 x5.toNat (s 139 (px_wr (x5 - x3)).toNat))) rfl ?_
          by_cases hc6 : 0 ≤ (px_wr (x5 - x3)) ∧ (px_wr (x5 - x3)) < 60
          case neg => rw [if_neg hc6] at h; cases h
          rw [if_pos hc6] at h
          refine px_D_iald (k := 135) (n := 60) rfl rfl hc6 ?_
          by_cases hc7 : 0 ≤ (x5) ∧ (x5) < 60
          case neg => rw [if_neg hc7] at h; cases h
          rw [if_pos hc7] at h
          refine px_D_iast (k := 135) (n := 60) rfl rfl hc7 ?_
          refine px_D_st 8 (ip1 := 50) (ls1 := [(0, .inr (.inr 138)), (3, .inl (x3)), (4, .inl (x4)), (5, .inl (x5))]) (st1 := [.inl (px_wr (x5 - x3)), .inr (.inr 141), .inl (x5), .inr (.inr 141)]) (h1 := (px_G1, px_up (px_up s 139 x5.toNat (s 139 (px_wr (x5 - x3)).toNat)) 140 x5.toNat ((px_up s 139 x5.toNat (s 139 (px_wr (x5 - x3)).toNat)) 140 (px_wr (x5 - x3)).toNat))) rfl ?_
          by_cases hc8 : 0 ≤ (px_wr (x5 - x3)) ∧ (px_wr (x5 - x3)) < 60
          case neg => rw [if_neg hc8] at h; cases h
          rw [if_pos hc8] at h
          refine px_D_iald (k := 136) (n := 60) rfl rfl hc8 ?_
          by_cases hc9 : 0 ≤ (x5) ∧ (x5) < 60
          case neg => rw [if_neg hc9] at h; cases h
          rw [if_pos hc9] at h
          refine px_D_iast (k := 136) (n := 60) rfl rfl hc9 ?_
          refine px_D_st 2 (ip1 := 14) (ls1 := [(5, .inl (px_wr (x5 + 1))), (0, .inr (.inr 138)), (3, .inl (x3)), (4, .inl (x4))]) (st1 := []) (h1 := (px_G1, px_up (px_up (px_up s 139 x5.toNat (s 139 (px_wr (x5 - x3)).toNat)) 140 x5.toNat ((px_up s 139 x5.toNat (s 139 (px_wr (x5 - x3)).toNat)) 140 (px_wr (x5 - x3)).toNat)) 141 x5.toNat ((px_up (px_up s 139 x5.toNat (s 139 (px_wr (x5 - x3)).toNat)) 140 x5.toNat ((px_up s 139 x5.toNat (s 139 (px_wr (x5 - x3)).toNat)) 140 (px_wr (x5 - x3)).toNat)) 141 (px_wr (x5 - x3)).toNat))) rfl ?_
          refine px_D_ls [(0, .inr (.inr 138)), (3, .inl (x3)), (4, .inl (x4)), (5, .inl (px_wr (x5 + 1)))] rfl rfl (List.forall_mem_cons.mpr ⟨rfl, List.forall_mem_cons.mpr ⟨rfl, List.forall_mem_cons.mpr ⟨rfl, List.forall_mem_cons.mpr ⟨rfl, fun _ h => absurd h List.not_mem_nil⟩⟩⟩⟩) ?_
          exact ih _ _ _ _ _ h
def f_Plan_repeat (s : px_Z) (x1 : Int) (x2 : Int) : Option (px_Z) := l_Plan_repeat_14  px_big s (px_wr ((s 138 0) - x1)) (px_wr (x1 + (px_wr ((px_wr ((s 138 0) - x1)) * x2)))) (s 138 0)
set_option maxHeartbeats 4000000 in
set_option maxRecDepth 100000 in
theorem c_Plan_repeat {sc : List Int} {d : Nat} {s : px_Z} {x1 : Int} {x2 : Int} {out : px_Z} (h : f_Plan_repeat s x1 x2 = some out) : px_D sc (d + 0) 40 0 [(0, .inr (.inr 138)), (1, .inl (x1)), (2, .inl (x2))] [] (px_G1, s) (px_Qv out) := by
  unfold f_Plan_repeat at h
  refine px_D_st 14 (ip1 := 14) (ls1 := [(5, .inl (s 138 0)), (4, .inl (px_wr (x1 + (px_wr ((px_wr ((s 138 0) - x1)) * x2))))), (3, .inl (px_wr ((s 138 0) - x1))), (0, .inr (.inr 138)), (1, .inl (x1)), (2, .inl (x2))]) (st1 := []) (h1 := (px_G1, s)) rfl ?_
  refine px_D_ls [(0, .inr (.inr 138)), (3, .inl (px_wr ((s 138 0) - x1))), (4, .inl (px_wr (x1 + (px_wr ((px_wr ((s 138 0) - x1)) * x2))))), (5, .inl (s 138 0))] rfl rfl (List.forall_mem_cons.mpr ⟨rfl, List.forall_mem_cons.mpr ⟨rfl, List.forall_mem_cons.mpr ⟨rfl, List.forall_mem_cons.mpr ⟨rfl, fun _ h => absurd h List.not_mem_nil⟩⟩⟩⟩) ?_
  refine cl_Plan_repeat_14  px_big _ _ _ _ _ h

def l_Reader_readDeeds_2 (g : Nat → px_Z → Int → Option px_Z)  : Nat → px_Z → Int → Int → Option (px_Z)
  | 0, _, _, _ => none
  | n + 1, s, x1, x2 => if (400) ≤ (x2) then some s else (f_Reader_goesOn s ).bind (fun q2 => if (q2) = (0) then some s else (if (x1) ≤ (0) then (if 0 ≤ (s 121 4) ∧ (s 121 4) < 401 then if (s 122 (s 121 4).toNat) = (283) then (g 1 s x1).bind (fun q11 => l_Reader_readDeeds_2 g  n q11 x1 (px_wr (x2 + 1))) else (if (f_R_within s (s 122 (s 121 4).toNat) 280 282) = (0) then (f_Reader_fail s 1).bind (fun q8 => l_Reader_readDeeds_2 g  n q8 x1 (px_wr (x2 + 1))) else (f_Reader_step s ).bind (fun q9 => (f_Reader_readDeed q9 (s 122 (s 121 4).toNat)).bind (fun q10 => l_Reader_readDeeds_2 g  n q10 x1 (px_wr (x2 + 1))))) else none) else (if 0 ≤ (s 121 4) ∧ (s 121 4) < 401 then if (s 122 (s 121 4).toNat) = (41) then some s else (if 0 ≤ (s 121 4) ∧ (s 121 4) < 401 then if (s 122 (s 121 4).toNat) = (283) then (g 1 s x1).bind (fun q20 => l_Reader_readDeeds_2 g  n q20 x1 (px_wr (x2 + 1))) else (if (f_R_within s (s 122 (s 121 4).toNat) 280 282) = (0) then (f_Reader_fail s 1).bind (fun q17 => l_Reader_readDeeds_2 g  n q17 x1 (px_wr (x2 + 1))) else (f_Reader_step s ).bind (fun q18 => (f_Reader_readDeed q18 (s 122 (s 121 4).toNat)).bind (fun q19 => l_Reader_readDeeds_2 g  n q19 x1 (px_wr (x2 + 1))))) else none) else none)))
set_option maxHeartbeats 4000000 in
set_option maxRecDepth 100000 in
theorem cl_Reader_readDeeds_2 {sc : List Int} {d : Nat}  {g : Nat → px_Z → Int → Option px_Z} (hg0 : ∀ (s : px_Z) (x1 : Int) (out : px_Z), g 0 s x1 = some out → px_D sc (d + 7) 63 0 [(0, .inr (.inr 121)), (1, .inl (x1))] [] (px_G1, s) (px_Qv out)) (hg1 : ∀ (s : px_Z) (x1 : Int) (out : px_Z), g 1 s x1 = some out → px_D sc (d + 7) 64 0 [(0, .inr (.inr 121)), (1, .inl (x1))] [] (px_G1, s) (px_Qv out)) : ∀ (n : Nat) (s : px_Z) (x1 : Int) (x2 : Int) (out : px_Z), l_Reader_readDeeds_2 g  n s x1 x2 = some out → px_D sc (d + 8) 63 2 [(0, .inr (.inr 121)), (1, .inl (x1)), (2, .inl (x2))] [] (px_G1, s) (px_Qv out) := by
  intro n
  induction n with
  | zero => intro s x1 x2 out h; cases h
  | succ n ih =>
    intro s x1 x2 out h
    rw [l_Reader_readDeeds_2] at h
    refine px_D_st 2 (ip1 := 4) (ls1 := [(0, .inr (.inr 121)), (1, .inl (x1)), (2, .inl (x2))]) (st1 := [.inl (400), .inl (x2)]) (h1 := (px_G1, s)) rfl ?_
    refine px_D_icmp rfl (fun hc => ?_) (fun hc => ?_)
    · have hc1 : (400) ≤ (x2) := of_decide_eq_true hc
      rw [if_pos hc1] at h
      cases h
      exact px_D_vret rfl ⟨rfl, rfl⟩
    · have hc1 : ¬ ((400) ≤ (x2)) := of_decide_eq_false hc
      rw [if_neg hc1] at h
      refine px_D_st 1 (ip1 := 6) (ls1 := [(0, .inr (.inr 121)), (1, .inl (x1)), (2, .inl (x2))]) (st1 := [.inr (.inr 121)]) (h1 := (px_G1, s)) rfl ?_
      refine px_D_call (as := [.inr (.inr 121)]) (rest := []) rfl rfl rfl rfl ?_
      obtain ⟨q2, hq2, h⟩ := Option.bind_eq_some_iff.mp h
      refine px_D_mono (c_Reader_goesOn (d := d + 7) hq2) ?_
      rintro _ _ ⟨rfl, rfl⟩
      show px_D sc (d + 8) 63 7 [(0, .inr (.inr 121)), (1, .inl (x1)), (2, .inl (x2))] [.inl (q2)] (px_G1, s) _
      refine px_D_ifc rfl (fun hc => ?_) (fun hc => ?_)
      · have hc3 : (q2) = (0) := of_decide_eq_true hc
        rw [if_pos hc3] at h
        cases h
        exact px_D_vret rfl ⟨rfl, rfl⟩
      · have hc3 : ¬ ((q2) = (0)) := of_decide_eq_false hc
        rw [if_neg hc3] at h
        refine px_D_st 1 (ip1 := 9) (ls1 := [(0, .inr (.inr 121)), (1, .inl (x1)), (2, .inl (x2))]) (st1 := [.inl (x1)]) (h1 := (px_G1, s)) rfl ?_
        refine px_D_ifc rfl (fun hc => ?_) (fun hc => ?_)
        · have hc4 : (x1) ≤ (0) := of_decide_eq_true hc
          rw [if_pos hc4] at h
          refine px_D_st 4 (ip1 := 21) (ls1 := [(0, .inr (.inr 121)), (1, .inl (x1)), (2, .inl (x2))]) (st1 := [.inl (s 121 4), .inr (.inr 122)]) (h1 := (px_G1, s)) rfl ?_
          by_cases hc5 : 0 ≤ (s 121 4) ∧ (s 121 4) < 401
          case neg => rw [if_neg hc5] at h; cases h
          rw [if_pos hc5] at h
          refine px_D_iald (k := 117) (n := 401) rfl rfl hc5 ?_
          refine px_D_st 3 (ip1 := 25) (ls1 := [(3, .inl (s 122 (s 121 4).toNat)), (0, .inr (.inr 121)), (1, .inl (x1)), (2, .inl (x2))]) (st1 := [.inl (283), .inl (s 122 (s 121 4).toNat)]) (h1 := (px_G1, s)) rfl ?_
          refine px_D_icmp rfl (fun hc => ?_) (fun hc => ?_)
          · have hc6 : ¬ ((s 122 (s 121 4).toNat) = (283)) := of_decide_eq_true hc
            rw [if_neg hc6] at h
            refine px_D_st 3 (ip1 := 33) (ls1 := [(3, .inl (s 122 (s 121 4).toNat)), (0, .inr (.inr 121)), (1, .inl (x1)), (2, .inl (x2))]) (st1 := [.inl (282), .inl (280), .inl (s 122 (s 121 4).toNat)]) (h1 := (px_G1, s)) rfl ?_
            refine px_D_call (as := [.inl (s 122 (s 121 4).toNat), .inl (280), .inl (282)]) (rest := []) rfl rfl rfl rfl ?_
            refine px_D_mono (c_R_within (d := d + 7) rfl) ?_
            rintro _ _ ⟨rfl, rfl⟩
            show px_D sc (d + 8) 63 34 [(3, .inl (s 122 (s 121 4).toNat)), (0, .inr (.inr 121)), (1, .inl (x1)), (2, .inl (x2))] [.inl (f_R_within s (s 122 (s 121 4).toNat) 280 282)] (px_G1, s) _
            refine px_D_ifc rfl (fun hc => ?_) (fun hc => ?_)
            · have hc7 : (f_R_within s (s 122 (s 121 4).toNat) 280 282) = (0) := of_decide_eq_true hc
              rw [if_pos hc7] at h
              refine px_D_st 2 (ip1 := 43) (ls1 := [(3, .inl (s 122 (s 121 4).toNat)), (0, .inr (.inr 121)), (1, .inl (x1)), (2, .inl (x2))]) (st1 := [.inl (1), .inr (.inr 121)]) (h1 := (px_G1, s)) rfl ?_
              refine px_D_call (as := [.inr (.inr 121), .inl (1)]) (rest := []) rfl rfl rfl rfl ?_
              obtain ⟨q8, hq8, h⟩ := Option.bind_eq_some_iff.mp h
              refine px_D_mono (c_Reader_fail (d := d + 7) hq8) ?_
              rintro _ _ ⟨rfl, rfl⟩
              show px_D sc (d + 8) 63 44 [(3, .inl (s 122 (s 121 4).toNat)), (0, .inr (.inr 121)), (1, .inl (x1)), (2, .inl (x2))] [] (px_G1, q8) _
              refine px_D_st 2 (ip1 := 2) (ls1 := [(2, .inl (px_wr (x2 + 1))), (3, .inl (s 122 (s 121 4).toNat)), (0, .inr (.inr 121)), (1, .inl (x1))]) (st1 := []) (h1 := (px_G1, q8)) rfl ?_
              refine px_D_ls [(0, .inr (.inr 121)), (1, .inl (x1)), (2, .inl (px_wr (x2 + 1)))] rfl rfl (List.forall_mem_cons.mpr ⟨rfl, List.forall_mem_cons.mpr ⟨rfl, List.forall_mem_cons.mpr ⟨rfl, fun _ h => absurd h List.not_mem_nil⟩⟩⟩) ?_
              exact ih _ _ _ _ h
            · have hc7 : ¬ ((f_R_within s (s 122 (s 121 4).toNat) 280 282) = (0)) := of_decide_eq_false hc
              rw [if_neg hc7] at h
              refine px_D_st 1 (ip1 := 36) (ls1 := [(3, .inl (s 122 (s 121 4).toNat)), (0, .inr (.inr 121)), (1, .inl (x1)), (2, .inl (x2))]) (st1 := [.inr (.inr 121)]) (h1 := (px_G1, s)) rfl ?_
              refine px_D_call (as := [.inr (.inr 121)]) (rest := []) rfl rfl rfl rfl ?_
              obtain ⟨q9, hq9, h⟩ := Option.bind_eq_some_iff.mp h
              refine px_D_mono (c_Reader_step (d := d + 7) hq9) ?_
              rintro _ _ ⟨rfl, rfl⟩
              show px_D sc (d + 8) 63 37 [(3, .inl (s 122 (s 121 4).toNat)), (0, .inr (.inr 121)), (1, .inl (x1)), (2, .inl (x2))] [] (px_G1, q9) _
              refine px_D_st 2 (ip1 := 39) (ls1 := [(3, .inl (s 122 (s 121 4).toNat)), (0, .inr (.inr 121)), (1, .inl (x1)), (2, .inl (x2))]) (st1 := [.inl (s 122 (s 121 4).toNat), .inr (.inr 121)]) (h1 := (px_G1, q9)) rfl ?_
              refine px_D_call (as := [.inr (.inr 121), .inl (s 122 (s 121 4).toNat)]) (rest := []) rfl rfl rfl rfl ?_
              obtain ⟨q10, hq10, h⟩ := Option.bind_eq_some_iff.mp h
              refine px_D_mono (c_Reader_readDeed (d := d + 5) hq10) ?_
              rintro _ _ ⟨rfl, rfl⟩
              show px_D sc (d + 8) 63 40 [(3, .inl (s 122 (s 121 4).toNat)), (0, .inr (.inr 121)), (1, .inl (x1)), (2, .inl (x2))] [] (px_G1, q10) _
              refine px_D_st 3 (ip1 := 2) (ls1 := [(2, .inl (px_wr (x2 + 1))), (3, .inl (s 122 (s 121 4).toNat)), (0, .inr (.inr 121)), (1, .inl (x1))]) (st1 := []) (h1 := (px_G1, q10)) rfl ?_
              refine px_D_ls [(0, .inr (.inr 121)), (1, .inl (x1)), (2, .inl (px_wr (x2 + 1)))] rfl rfl (List.forall_mem_cons.mpr ⟨rfl, List.forall_mem_cons.mpr ⟨rfl, List.forall_mem_cons.mpr ⟨rfl, fun _ h => absurd h List.not_mem_nil⟩⟩⟩) ?_
              exact ih _ _ _ _ h
          · have hc6 : (s 122 (s 121 4).toNat) = (283) := Decidable.of_not_not (of_decide_eq_false hc)
            rw [if_pos hc6] at h
            refine px_D_st 2 (ip1 := 28) (ls1 := [(3, .inl (s 122 (s 121 4).toNat)), (0, .inr (.inr 121)), (1, .inl (x1)), (2, .inl (x2))]) (st1 := [.inl (x1), .inr (.inr 121)]) (h1 := (px_G1, s)) rfl ?_
            refine px_D_call (as := [.inr (.inr 121), .inl (x1)]) (rest := []) rfl rfl rfl rfl ?_
            obtain ⟨q11, hq11, h⟩ := Option.bind_eq_some_iff.mp h
            refine px_D_mono (hg1 _ _ _ hq11) ?_
            rintro _ _ ⟨rfl, rfl⟩
            show px_D sc (d + 8) 63 29 [(3, .inl (s 122 (s 121 4).toNat)), (0, .inr (.inr 121)), (1, .inl (x1)), (2, .inl (x2))] [] (px_G1, q11) _
            refine px_D_st 3 (ip1 := 2) (ls1 := [(2, .inl (px_wr (x2 + 1))), (3, .inl (s 122 (s 121 4).toNat)), (0, .inr (.inr 121)), (1, .inl (x1))]) (st1 := []) (h1 := (px_G1, q11)) rfl ?_
            refine px_D_ls [(0, .inr (.inr 121)), (1, .inl (x1)), (2, .inl (px_wr (x2 + 1)))] rfl rfl (List.forall_mem_cons.mpr ⟨rfl, List.forall_mem_cons.mpr ⟨rfl, List.forall_mem_cons.mpr ⟨rfl, fun _ h => absurd h List.not_mem_nil⟩⟩⟩) ?_
            exact ih _ _ _ _ h
        · have hc4 : ¬ ((x1) ≤ (0)) := of_decide_eq_false hc
          rw [if_neg hc4] at h
          refine px_D_st 4 (ip1 := 14) (ls1 := [(0, .inr (.inr 121)), (1, .inl (x1)), (2, .inl (x2))]) (st1 := [.inl (s 121 4), .inr (.inr 122)]) (h1 := (px_G1, s)) rfl ?_
          by_cases hc12 : 0 ≤ (s 121 4) ∧ (s 121 4) < 401
          case neg => rw [if_neg hc12] at h; cases h
          rw [if_pos hc12] at h
          refine px_D_iald (k := 117) (n := 401) rfl rfl hc12 ?_
          refine px_D_st 1 (ip1 := 16) (ls1 := [(0, .inr (.inr 121)), (1, .inl (x1)), (2, .inl (x2))]) (st1 := [.inl (41), .inl (s 122 (s 121 4).toNat)]) (h1 := (px_G1, s)) rfl ?_
          refine px_D_icmp rfl (fun hc => ?_) (fun hc => ?_)
          · have hc13 : (s 122 (s 121 4).toNat) = (41) := of_decide_eq_true hc
            rw [if_pos hc13] at h
            cases h
            exact px_D_vret rfl ⟨rfl, rfl⟩
          · have hc13 : ¬ ((s 122 (s 121 4).toNat) = (41)) := of_decide_eq_false hc
            rw [if_neg hc13] at h
            refine px_D_st 4 (ip1 := 21) (ls1 := [(0, .inr (.inr 121)), (1, .inl (x1)), (2, .inl (x2))]) (st1 := [.inl (s 121 4), .inr (.inr 122)]) (h1 := (px_G1, s)) rfl ?_
            by_cases hc14 : 0 ≤ (s 121 4) ∧ (s 121 4) < 401
            case neg => rw [if_neg hc14] at h; cases h
            rw [if_pos hc14] at h
            refine px_D_iald (k := 117) (n := 401) rfl rfl hc14 ?_
            refine px_D_st 3 (ip1 := 25) (ls1 := [(3, .inl (s 122 (s 121 4).toNat)), (0, .inr (.inr 121)), (1, .inl (x1)), (2, .inl (x2))]) (st1 := [.inl (283), .inl (s 122 (s 121 4).toNat)]) (h1 := (px_G1, s)) rfl ?_
            refine px_D_icmp rfl (fun hc => ?_) (fun hc => ?_)
            · have hc15 : ¬ ((s 122 (s 121 4).toNat) = (283)) := of_decide_eq_true hc
              rw [if_neg hc15] at h
              refine px_D_st 3 (ip1 := 33) (ls1 := [(3, .inl (s 122 (s 121 4).toNat)), (0, .inr (.inr 121)), (1, .inl (x1)), (2, .inl (x2))]) (st1 := [.inl (282), .inl (280), .inl (s 122 (s 121 4).toNat)]) (h1 := (px_G1, s)) rfl ?_
              refine px_D_call (as := [.inl (s 122 (s 121 4).toNat), .inl (280), .inl (282)]) (rest := []) rfl rfl rfl rfl ?_
              refine px_D_mono (c_R_within (d := d + 7) rfl) ?_
              rintro _ _ ⟨rfl, rfl⟩
              show px_D sc (d + 8) 63 34 [(3, .inl (s 122 (s 121 4).toNat)), (0, .inr (.inr 121)), (1, .inl (x1)), (2, .inl (x2))] [.inl (f_R_within s (s 122 (s 121 4).toNat) 280 282)] (px_G1, s) _
              refine px_D_ifc rfl (fun hc => ?_) (fun hc => ?_)
              · have hc16 : (f_R_within s (s 122 (s 121 4).toNat) 280 282) = (0) := of_decide_eq_true hc
                rw [if_pos hc16] at h
                refine px_D_st 2 (ip1 := 43) (ls1 := [(3, .inl (s 122 (s 121 4).toNat)), (0, .inr (.inr 121)), (1, .inl (x1)), (2, .inl (x2))]) (st1 := [.inl (1), .inr (.inr 121)]) (h1 := (px_G1, s)) rfl ?_
                refine px_D_call (as := [.inr (.inr 121), .inl (1)]) (rest := []) rfl rfl rfl rfl ?_
                obtain ⟨q17, hq17, h⟩ := Option.bind_eq_some_iff.mp h
                refine px_D_mono (c_Reader_fail (d := d + 7) hq17) ?_
                rintro _ _ ⟨rfl, rfl⟩
                show px_D sc (d + 8) 63 44 [(3, .inl (s 122 (s 121 4).toNat)), (0, .inr (.inr 121)), (1, .inl (x1)), (2, .inl (x2))] [] (px_G1, q17) _
                refine px_D_st 2 (ip1 := 2) (ls1 := [(2, .inl (px_wr (x2 + 1))), (3, .inl (s 122 (s 121 4).toNat)), (0, .inr (.inr 121)), (1, .inl (x1))]) (st1 := []) (h1 := (px_G1, q17)) rfl ?_
                refine px_D_ls [(0, .inr (.inr 121)), (1, .inl (x1)), (2, .inl (px_wr (x2 + 1)))] rfl rfl (List.forall_mem_cons.mpr ⟨rfl, List.forall_mem_cons.mpr ⟨rfl, List.forall_mem_cons.mpr ⟨rfl, fun _ h => absurd h List.not_mem_nil⟩⟩⟩) ?_
                exact ih _ _ _ _ h
              · have hc16 : ¬ ((f_R_within s (s 122 (s 121 4).toNat) 280 282) = (0)) := of_decide_eq_false hc
                rw [if_neg hc16] at h
                refine px_D_st 1 (ip1 := 36) (ls1 := [(3, .inl (s 122 (s 121 4).toNat)), (0, .inr (.inr 121)), (1, .inl (x1)), (2, .inl (x2))]) (st1 := [.inr (.inr 121)]) (h1 := (px_G1, s)) rfl ?_
                refine px_D_call (as := [.inr (.inr 121)]) (rest := []) rfl rfl rfl rfl ?_
                obtain ⟨q18, hq18, h⟩ := Option.bind_eq_some_iff.mp h
                refine px_D_mono (c_Reader_step (d := d + 7) hq18) ?_
                rintro _ _ ⟨rfl, rfl⟩
                show px_D sc (d + 8) 63 37 [(3, .inl (s 122 (s 121 4).toNat)), (0, .inr (.inr 121)), (1, .inl (x1)), (2, .inl (x2))] [] (px_G1, q18) _
                refine px_D_st 2 (ip1 := 39) (ls1 := [(3, .inl (s 122 (s 121 4).toNat)), (0, .inr (.inr 121)), (1, .inl (x1)), (2, .inl (x2))]) (st1 := [.inl (s 122 (s 121 4).toNat), .inr (.inr 121)]) (h1 := (px_G1, q18)) rfl ?_
                refine px_D_call (as := [.inr (.inr 121), .inl (s 122 (s 121 4).toNat)]) (rest := []) rfl rfl rfl rfl ?_
                obtain ⟨q19, hq19, h⟩ := Option.bind_eq_some_iff.mp h
                refine px_D_mono (c_Reader_readDeed (d := d + 5) hq19) ?_
                rintro _ _ ⟨rfl, rfl⟩
                show px_D sc (d + 8) 63 40 [(3, .inl (s 122 (s 121 4).toNat)), (0, .inr (.inr 121)), (1, .inl (x1)), (2, .inl (x2))] [] (px_G1, q19) _
                refine px_D_st 3 (ip1 := 2) (ls1 := [(2, .inl (px_wr (x2 + 1))), (3, .inl (s 122 (s 121 4).toNat)), (0, .inr (.inr 121)), (1, .inl (x1))]) (st1 := []) (h1 := (px_G1, q19)) rfl ?_
                refine px_D_ls [(0, .inr (.inr 121)), (1, .inl (x1)), (2, .inl (px_wr (x2 + 1)))] rfl rfl (List.forall_mem_cons.mpr ⟨rfl, List.forall_mem_cons.mpr ⟨rfl, List.forall_mem_cons.mpr ⟨rfl, fun _ h => absurd h List.not_mem_nil⟩⟩⟩) ?_
                exact ih _ _ _ _ h
            · have hc15 : (s 122 (s 121 4).toNat) = (283) := Decidable.of_not_not (of_decide_eq_false hc)
              rw [if_pos hc15] at h
              refine px_D_st 2 (ip1 := 28) (ls1 := [(3, .inl (s 122 (s 121 4).toNat)), (0, .inr (.inr 121)), (1, .inl (x1)), (2, .inl (x2))]) (st1 := [.inl (x1), .inr (.inr 121)]) (h1 := (px_G1, s)) rfl ?_
              refine px_D_call (as := [.inr (.inr 121), .inl (x1)]) (rest := []) rfl rfl rfl rfl ?_
              obtain ⟨q20, hq20, h⟩ := Option.bind_eq_some_iff.mp h
              refine px_D_mono (hg1 _ _ _ hq20) ?_
              rintro _ _ ⟨rfl, rfl⟩
              show px_D sc (d + 8) 63 29 [(3, .inl (s 122 (s 121 4).toNat)), (0, .inr (.inr 121)), (1, .inl (x1)), (2, .inl (x2))] [] (px_G1, q20) _
              refine px_D_st 3 (ip1 := 2) (ls1 := [(2, .inl (px_wr (x2 + 1))), (3, .inl (s 122 (s 121 4).toNat)), (0, .inr (.inr 121)), (1, .inl (x1))]) (st1 := []) (h1 := (px_G1, q20)) rfl ?_
              refine px_D_ls [(0, .inr (.inr 121)), (1, .inl (x1)), (2, .inl (px_wr (x2 + 1)))] rfl rfl (List.forall_mem_cons.mpr ⟨rfl, List.forall_mem_cons.mpr ⟨rfl, List.forall_mem_cons.mpr ⟨rfl, fun _ h => absurd h List.not_mem_nil⟩⟩⟩) ?_
              exact ih _ _ _ _ h
def g_1 : Nat → Nat → px_Z → Int → Option px_Z
  | 0, _, _, _ => none
  | n + 1, 0, s, x1 => l_Reader_readDeeds_2 (g_1 n)  px_big s x1 0
  | n + 1, _ + 1, s, x1 => if (x1) < (4) then (f_Reader_step s ).bind (fun q2 => (f_Reader_numberWithin q2 1 9).bind (fun q3 => (f_Reader_expect q3.2 40).bind (fun q4 => if (q4 121 7) = (0) then ((g_1 n) 0 q4 (px_wr (x1 + 1))).bind (fun q9 => (f_Reader_expect q9 41).bind (fun q10 => if (q10 121 7) = (0) then (f_Plan_repeat q10 (q4 138 0) q3.1).bind (fun q12 => some q12) else some q10)) else (f_Reader_expect q4 41).bind (fun q6 => if (q6 121 7) = (0) then (f_Plan_repeat q6 (q4 138 0) q3.1).bind (fun q8 => some q8) else some q6)))) else (f_Reader_fail s 3).bind (fun q13 => some q13)
set_option maxHeartbeats 4000000 in
set_option maxRecDepth 100000 in
theorem cg_1 {sc : List Int} : ∀ (n : Nat) (d tag : Nat) (s : px_Z) (x1 : Int) (out : px_Z), g_1 n tag s x1 = some out → px_D sc (d + 8 * n) (if tag = 0 then 63 else 64) 0 [(0, .inr (.inr 121)), (1, .inl (x1))] [] (px_G1, s) (px_Qv out) := by
  intro n
  induction n with
  | zero => intro d tag s x1 out h; cases h
  | succ n ih =>
    intro d tag s x1 out h
    have hg0 : ∀ (s : px_Z) (x1 : Int) (out : px_Z), g_1 n 0 s x1 = some out → px_D sc (d + 8 * n + 7) 63 0 [(0, .inr (.inr 121)), (1, .inl (x1))] [] (px_G1, s) (px_Qv out) := fun s x1 out h => by
      have h2 := ih (d + 7) 0 s x1 out h
      rw [show d + 7 + 8 * n = d + 8 * n + 7 by omega] at h2
      exact h2
    have hg1 : ∀ (s : px_Z) (x1 : Int) (out : px_Z), g_1 n 1 s x1 = some out → px_D sc (d + 8 * n + 7) 64 0 [(0, .inr (.inr 121)), (1, .inl (x1))] [] (px_G1, s) (px_Qv out) := fun s x1 out h => by
      have h2 := ih (d + 7) 1 s x1 out h
      rw [show d + 7 + 8 * n = d + 8 * n + 7 by omega] at h2
      exact h2
    rw [show d + 8 * (n + 1) = d + 8 * n + 8 by omega]
    generalize d + 8 * n = d at hg0 hg1 ⊢
    match tag, h with
    | 0, h =>
      rw [g_1] at h
      show px_D sc (d + 8) 63 0 [(0, .inr (.inr 121)), (1, .inl (x1))] [] (px_G1, s) (px_Qv out)
      refine px_D_st 2 (ip1 := 2) (ls1 := [(2, .inl (0)), (0, .inr (.inr 121)), (1, .inl (x1))]) (st1 := []) (h1 := (px_G1, s)) rfl ?_
      refine px_D_ls [(0, .inr (.inr 121)), (1, .inl (x1)), (2, .inl (0))] rfl rfl (List.forall_mem_cons.mpr ⟨rfl, List.forall_mem_cons.mpr ⟨rfl, List.forall_mem_cons.mpr ⟨rfl, fun _ h => absurd h List.not_mem_nil⟩⟩⟩) ?_
      refine cl_Reader_readDeeds_2 hg0 hg1  px_big _ _ _ _ h
    | k + 1, h =>
      rw [g_1] at h
      show px_D sc (d + 8) 64 0 [(0, .inr (.inr 121)), (1, .inl (x1))] [] (px_G1, s) (px_Qv out)
      refine px_D_st 2 (ip1 := 2) (ls1 := [(0, .inr (.inr 121)), (1, .inl (x1))]) (st1 := [.inl (4), .inl (x1)]) (h1 := (px_G1, s)) rfl ?_
      refine px_D_icmp rfl (fun hc => ?_) (fun hc => ?_)
      · have hc1 : (x1) < (4) := of_decide_eq_true hc
        rw [if_pos hc1] at h
        refine px_D_st 1 (ip1 := 8) (ls1 := [(0, .inr (.inr 121)), (1, .inl (x1))]) (st1 := [.inr (.inr 121)]) (h1 := (px_G1, s)) rfl ?_
        refine px_D_call (as := [.inr (.inr 121)]) (rest := []) rfl rfl rfl rfl ?_
        obtain ⟨q2, hq2, h⟩ := Option.bind_eq_some_iff.mp h
        refine px_D_mono (c_Reader_step (d := d + 7) hq2) ?_
        rintro _ _ ⟨rfl, rfl⟩
        show px_D sc (d + 8) 64 9 [(0, .inr (.inr 121)), (1, .inl (x1))] [] (px_G1, q2) _
        refine px_D_st 3 (ip1 := 12) (ls1 := [(0, .inr (.inr 121)), (1, .inl (x1))]) (st1 := [.inl (9), .inl (1), .inr (.inr 121)]) (h1 := (px_G1, q2)) rfl ?_
        refine px_D_call (as := [.inr (.inr 121), .inl (1), .inl (9)]) (rest := []) rfl rfl rfl rfl ?_
        obtain ⟨q3, hq3, h⟩ := Option.bind_eq_some_iff.mp h
        refine px_D_mono (c_Reader_numberWithin (d := d + 6) hq3) ?_
        rintro _ _ ⟨rfl, rfl⟩
        show px_D sc (d + 8) 64 13 [(0, .inr (.inr 121)), (1, .inl (x1))] [.inl (q3.1)] (px_G1, q3.2) _
        refine px_D_st 3 (ip1 := 16) (ls1 := [(2, .inl (q3.1)), (0, .inr (.inr 121)), (1, .inl (x1))]) (st1 := [.inl (40), .inr (.inr 121)]) (h1 := (px_G1, q3.2)) rfl ?_
        refine px_D_call (as := [.inr (.inr 121), .inl (40)]) (rest := []) rfl rfl rfl rfl ?_
        obtain ⟨q4, hq4, h⟩ := Option.bind_eq_some_iff.mp h
        refine px_D_mono (c_Reader_expect (d := d + 6) hq4) ?_
        rintro _ _ ⟨rfl, rfl⟩
        show px_D sc (d + 8) 64 17 [(2, .inl (q3.1)), (0, .inr (.inr 121)), (1, .inl (x1))] [] (px_G1, q4) _
        refine px_D_st 6 (ip1 := 23) (ls1 := [(3, .inl (q4 138 0)), (2, .inl (q3.1)), (0, .inr (.inr 121)), (1, .inl (x1))]) (st1 := [.inl (q4 121 7)]) (h1 := (px_G1, q4)) rfl ?_
        refine px_D_ifc rfl (fun hc => ?_) (fun hc => ?_)
        · have hc5 : ¬ ((q4 121 7) = (0)) := of_decide_eq_true hc
          rw [if_neg hc5] at h
          refine px_D_st 2 (ip1 := 31) (ls1 := [(3, .inl (q4 138 0)), (2, .inl (q3.1)), (0, .inr (.inr 121)), (1, .inl (x1))]) (st1 := [.inl (41), .inr (.inr 121)]) (h1 := (px_G1, q4)) rfl ?_
          refine px_D_call (as := [.inr (.inr 121), .inl (41)]) (rest := []) rfl rfl rfl rfl ?_
          obtain ⟨q6, hq6, h⟩ := Option.bind_eq_some_iff.mp h
          refine px_D_mono (c_Reader_expect (d := d + 6) hq6) ?_
          rintro _ _ ⟨rfl, rfl⟩
          show px_D sc (d + 8) 64 32 [(3, .inl (q4 138 0)), (2, .inl (q3.1)), (0, .inr (.inr 121)), (1, .inl (x1))] [] (px_G1, q6) _
          refine px_D_st 2 (ip1 := 34) (ls1 := [(3, .inl (q4 138 0)), (2, .inl (q3.1)), (0, .inr (.inr 121)), (1, .inl (x1))]) (st1 := [.inl (q6 121 7)]) (h1 := (px_G1, q6)) rfl ?_
          refine px_D_ifc rfl (fun hc => ?_) (fun hc => ?_)
          · have hc7 : ¬ ((q6 121 7) = (0)) := of_decide_eq_true hc
            rw [if_neg hc7] at h
            cases h
            exact px_D_vret rfl ⟨rfl, rfl⟩
          · have hc7 : (q6 121 7) = (0) := Decidable.of_not_not (of_decide_eq_false hc)
            rw [if_pos hc7] at h
            refine px_D_st 4 (ip1 := 39) (ls1 := [(3, .inl (q4 138 0)), (2, .inl (q3.1)), (0, .inr (.inr 121)), (1, .inl (x1))]) (st1 := [.inl (q3.1), .inl (q4 138 0), .inr (.inr 138)]) (h1 := (px_G1, q6)) rfl ?_
            refine px_D_call (as := [.inr (.inr 138), .inl (q4 138 0), .inl (q3.1)]) (rest := []) rfl rfl rfl rfl ?_
            obtain ⟨q8, hq8, h⟩ := Option.bind_eq_some_iff.mp h
            refine px_D_mono (c_Plan_repeat (d := d + 7) hq8) ?_
            rintro _ _ ⟨rfl, rfl⟩
            show px_D sc (d + 8) 64 40 [(3, .inl (q4 138 0)), (2, .inl (q3.1)), (0, .inr (.inr 121)), (1, .inl (x1))] [] (px_G1, q8) _
            cases h
            exact px_D_vret rfl ⟨rfl, rfl⟩
        · have hc5 : (q4 121 7) = (0) := Decidable.of_not_not (of_decide_eq_false hc)
          rw [if_pos hc5] at h
          refine px_D_st 4 (ip1 := 28) (ls1 := [(3, .inl (q4 138 0)), (2, .inl (q3.1)), (0, .inr (.inr 121)), (1, .inl (x1))]) (st1 := [.inl (px_wr (x1 + 1)), .inr (.inr 121)]) (h1 := (px_G1, q4)) rfl ?_
          refine px_D_call (as := [.inr (.inr 121), .inl (px_wr (x1 + 1))]) (rest := []) rfl rfl rfl rfl ?_
          obtain ⟨q9, hq9, h⟩ := Option.bind_eq_some_iff.mp h
          refine px_D_mono (hg0 _ _ _ hq9) ?_
          rintro _ _ ⟨rfl, rfl⟩
          show px_D sc (d + 8) 64 29 [(3, .inl (q4 138 0)), (2, .inl (q3.1)), (0, .inr (.inr 121)), (1, .inl (x1))] [] (px_G1, q9) _
          refine px_D_st 2 (ip1 := 31) (ls1 := [(3, .inl (q4 138 0)), (2, .inl (q3.1)), (0, .inr (.inr 121)), (1, .inl (x1))]) (st1 := [.inl (41), .inr (.inr 121)]) (h1 := (px_G1, q9)) rfl ?_
          refine px_D_call (as := [.inr (.inr 121), .inl (41)]) (rest := []) rfl rfl rfl rfl ?_
          obtain ⟨q10, hq10, h⟩ := Option.bind_eq_some_iff.mp h
          refine px_D_mono (c_Reader_expect (d := d + 6) hq10) ?_
          rintro _ _ ⟨rfl, rfl⟩
          show px_D sc (d + 8) 64 32 [(3, .inl (q4 138 0)), (2, .inl (q3.1)), (0, .inr (.inr 121)), (1, .inl (x1))] [] (px_G1, q10) _
          refine px_D_st 2 (ip1 := 34) (ls1 := [(3, .inl (q4 138 0)), (2, .inl (q3.1)), (0, .inr (.inr 121)), (1, .inl (x1))]) (st1 := [.inl (q10 121 7)]) (h1 := (px_G1, q10)) rfl ?_
          refine px_D_ifc rfl (fun hc => ?_) (fun hc => ?_)
          · have hc11 : ¬ ((q10 121 7) = (0)) := of_decide_eq_true hc
            rw [if_neg hc11] at h
            cases h
            exact px_D_vret rfl ⟨rfl, rfl⟩
          · have hc11 : (q10 121 7) = (0) := Decidable.of_not_not (of_decide_eq_false hc)
            rw [if_pos hc11] at h
            refine px_D_st 4 (ip1 := 39) (ls1 := [(3, .inl (q4 138 0)), (2, .inl (q3.1)), (0, .inr (.inr 121)), (1, .inl (x1))]) (st1 := [.inl (q3.1), .inl (q4 138 0), .inr (.inr 138)]) (h1 := (px_G1, q10)) rfl ?_
            refine px_D_call (as := [.inr (.inr 138), .inl (q4 138 0), .inl (q3.1)]) (rest := []) rfl rfl rfl rfl ?_
            obtain ⟨q12, hq12, h⟩ := Option.bind_eq_some_iff.mp h
            refine px_D_mono (c_Plan_repeat (d := d + 7) hq12) ?_
            rintro _ _ ⟨rfl, rfl⟩
            show px_D sc (d + 8) 64 40 [(3, .inl (q4 138 0)), (2, .inl (q3.1)), (0, .inr (.inr 121)), (1, .inl (x1))] [] (px_G1, q12) _
            cases h
            exact px_D_vret rfl ⟨rfl, rfl⟩
      · have hc1 : ¬ ((x1) < (4)) := of_decide_eq_false hc
        rw [if_neg hc1] at h
        refine px_D_st 2 (ip1 := 5) (ls1 := [(0, .inr (.inr 121)), (1, .inl (x1))]) (st1 := [.inl (3), .inr (.inr 121)]) (h1 := (px_G1, s)) rfl ?_
        refine px_D_call (as := [.inr (.inr 121), .inl (3)]) (rest := []) rfl rfl rfl rfl ?_
        obtain ⟨q13, hq13, h⟩ := Option.bind_eq_some_iff.mp h
        refine px_D_mono (c_Reader_fail (d := d + 7) hq13) ?_
        rintro _ _ ⟨rfl, rfl⟩
        show px_D sc (d + 8) 64 6 [(0, .inr (.inr 121)), (1, .inl (x1))] [] (px_G1, q13) _
        cases h
        exact px_D_vret rfl ⟨rfl, rfl⟩
def f_Reader_readDeeds (s : px_Z) (x1 : Int) : Option px_Z := g_1 24 0 s x1
set_option maxHeartbeats 4000000 in
set_option maxRecDepth 100000 in
theorem c_Reader_readDeeds {sc : List Int} {d : Nat} {s : px_Z} {x1 : Int} {out : px_Z} (h : f_Reader_readDeeds s x1 = some out) : px_D sc (d + 192) 63 0 [(0, .inr (.inr 121)), (1, .inl (x1))] [] (px_G1, s) (px_Qv out) := cg_1 24 d 0 s x1 out h
def f_Reader_readAgain (s : px_Z) (x1 : Int) : Option px_Z := g_1 24 1 s x1
set_option maxHeartbeats 4000000 in
set_option maxRecDepth 100000 in
theorem c_Reader_readAgain {sc : List Int} {d : Nat} {s : px_Z} {x1 : Int} {out : px_Z} (h : f_Reader_readAgain s x1 = some out) : px_D sc (d + 192) 64 0 [(0, .inr (.inr 121)), (1, .inl (x1))] [] (px_G1, s) (px_Qv out) := cg_1 24 d 1 s x1 out h


def f_Reader_readPlan (s : px_Z) : Option (px_Z) := (f_Reader_readDeeds (px_up s 138 0 0) 0).bind (fun q1 => if (q1 138 0) ≤ (60) then some q1 else (f_Reader_fail q1 4).bind (fun q3 => some q3))
set_option maxHeartbeats 4000000 in
set_option maxRecDepth 100000 in
theorem c_Reader_readPlan {sc : List Int} {d : Nat} {s : px_Z} {out : px_Z} (h : f_Reader_readPlan s  = some out) : px_D sc (d + 193) 62 0 [(0, .inr (.inr 121))] [] (px_G1, s) (px_Qv out) := by
  unfold f_Reader_readPlan at h
  refine px_D_st 6 (ip1 := 6) (ls1 := [(0, .inr (.inr 121))]) (st1 := [.inl (0), .inr (.inr 121)]) (h1 := (px_G1, px_up s 138 0 0)) rfl ?_
  refine px_D_call (as := [.inr (.inr 121), .inl (0)]) (rest := []) rfl rfl rfl rfl ?_
  obtain ⟨q1, hq1, h⟩ := Option.bind_eq_some_iff.mp h
  refine px_D_mono (c_Reader_readDeeds (d := d + 0) hq1) ?_
  rintro _ _ ⟨rfl, rfl⟩
  show px_D sc (d + 193) 62 7 [(0, .inr (.inr 121))] [] (px_G1, q1) _
  refine px_D_st 4 (ip1 := 11) (ls1 := [(0, .inr (.inr 121))]) (st1 := [.inl (60), .inl (q1 138 0)]) (h1 := (px_G1, q1)) rfl ?_
  refine px_D_icmp rfl (fun hc => ?_) (fun hc => ?_)
  · have hc2 : (q1 138 0) ≤ (60) := of_decide_eq_true hc
    rw [if_pos hc2] at h
    cases h
    exact px_D_vret rfl ⟨rfl, rfl⟩
  · have hc2 : ¬ ((q1 138 0) ≤ (60)) := of_decide_eq_false hc
    rw [if_neg hc2] at h
    refine px_D_st 2 (ip1 := 14) (ls1 := [(0, .inr (.inr 121))]) (st1 := [.inl (4), .inr (.inr 121)]) (h1 := (px_G1, q1)) rfl ?_
    refine px_D_call (as := [.inr (.inr 121), .inl (4)]) (rest := []) rfl rfl rfl rfl ?_
    obtain ⟨q3, hq3, h⟩ := Option.bind_eq_some_iff.mp h
    refine px_D_mono (c_Reader_fail (d := d + 192) hq3) ?_
    rintro _ _ ⟨rfl, rfl⟩
    show px_D sc (d + 193) 62 15 [(0, .inr (.inr 121))] [] (px_G1, q3) _
    cases h
    exact px_D_vret rfl ⟨rfl, rfl⟩

def f_Law_addLine (s : px_Z) (x1 : Int) (x2 : Int) (x3 : Int) : Option (px_Z) := if (16) ≤ (s 125 0) then some s else (if 0 ≤ (s 125 0) ∧ (s 125 0) < 16 then if 0 ≤ ((px_up s 126 (s 125 0).toNat x1) 125 0) ∧ ((px_up s 126 (s 125 0).toNat x1) 125 0) < 16 then if 0 ≤ ((px_up (px_up s 126 (s 125 0).toNat x1) 127 ((px_up s 126 (s 125 0).toNat x1) 125 0).toNat x2) 125 0) ∧ ((px_up (px_up s 126 (s 125 0).toNat x1) 127 ((px_up s 126 (s 125 0).toNat x1) 125 0).toNat x2) 125 0) < 16 then if 0 ≤ ((px_up (px_up (px_up s 126 (s 125 0).toNat x1) 127 ((px_up s 126 (s 125 0).toNat x1) 125 0).toNat x2) 128 ((px_up (px_up s 126 (s 125 0).toNat x1) 127 ((px_up s 126 (s 125 0).toNat x1) 125 0).toNat x2) 125 0).toNat x3) 125 0) ∧ ((px_up (px_up (px_up s 126 (s 125 0).toNat x1) 127 ((px_up s 126 (s 125 0).toNat x1) 125 0).toNat x2) 128 ((px_up (px_up s 126 (s 125 0).toNat x1) 127 ((px_up s 126 (s 125 0).toNat x1) 125 0).toNat x2) 125 0).toNat x3) 125 0) < 16 then some (px_up (px_up (px_up (px_up (px_up s 126 (s 125 0).toNat x1) 127 ((px_up s 126 (s 125 0).toNat x1) 125 0).toNat x2) 128 ((px_up (px_up s 126 (s 125 0).toNat x1) 127 ((px_up s 126 (s 125 0).toNat x1) 125 0).toNat x2) 125 0).toNat x3) 129 ((px_up (px_up (px_up s 126 (s 125 0).toNat x1) 127 ((px_up s 126 (s 125 0).toNat x1) 125 0).toNat x2) 128 ((px_up (px_up s 126 (s 125 0).toNat x1) 127 ((px_up s 126 (s 125 0).toNat x1) 125 0).toNat x2) 125 0).toNat x3) 125 0).toNat ((px_up (px_up (px_up s 126 (s 125 0).toNat x1) 127 ((px_up s 126 (s 125 0).toNat x1) 125 0).toNat x2) 128 ((px_up (px_up s 126 (s 125 0).toNat x1) 127 ((px_up s 126 (s 125 0).toNat x1) 125 0).toNat x2) 125 0).toNat x3) 125 1)) 125 0 (px_wr (((px_up (px_up (px_up (px_up s 126 (s 125 0).toNat x1) 127 ((px_up s 126 (s 125 0).toNat x1) 125 0).toNat x2) 128 ((px_up (px_up s 126 (s 125 0).toNat x1) 127 ((px_up s 126 (s 125 0).toNat x1) 125 0).toNat x2) 125 0).toNat x3) 129 ((px_up (px_up (px_up s 126 (s 125 0).toNat x1) 127 ((px_up s 126 (s 125 0).toNat x1) 125 0).toNat x2) 128 ((px_up (px_up s 126 (s 125 0).toNat x1) 127 ((px_up s 126 (s 125 0).toNat x1) 125 0).toNat x2) 125 0).toNat x3) 125 0).toNat ((px_up (px_up (px_up s 126 (s 125 0).toNat x1) 127 ((px_up s 126 (s 125 0).toNat x1) 125 0).toNat x2) 128 ((px_up (px_up s 126 (s 125 0).toNat x1) 127 ((px_up s 126 (s 125 0).toNat x1) 125 0).toNat x2) 125 0).toNat x3) 125 1)) 125 0) + 1))) else none else none else none else none)
set_option maxHeartbeats 4000000 in
set_option maxRecDepth 100000 in
theorem c_Law_addLine {sc : List Int} {d : Nat} {s : px_Z} {x1 : Int} {x2 : Int} {x3 : Int} {out : px_Z} (h : f_Law_addLine s x1 x2 x3 = some out) : px_D sc (d + 0) 15 0 [(0, .inr (.inr 125)), (1, .inl (x1)), (2, .inl (x2)), (3, .inl (x3))] [] (px_G1, s) (px_Qv out) := by
  unfold f_Law_addLine at h
  refine px_D_st 3 (ip1 := 3) (ls1 := [(0, .inr (.inr 125)), (1, .inl (x1)), (2, .inl (x2)), (3, .inl (x3))]) (st1 := [.inl (16), .inl (s 125 0)]) (h1 := (px_G1, s)) rfl ?_
  refine px_D_icmp rfl (fun hc => ?_) (fun hc => ?_)
  · have hc1 : (16) ≤ (s 125 0) := of_decide_eq_true hc
    rw [if_pos hc1] at h
    cases h
    exact px_D_vret rfl ⟨rfl, rfl⟩
  · have hc1 : ¬ ((16) ≤ (s 125 0)) := of_decide_eq_false hc
    rw [if_neg hc1] at h
    refine px_D_st 5 (ip1 := 9) (ls1 := [(0, .inr (.inr 125)), (1, .inl (x1)), (2, .inl (x2)), (3, .inl (x3))]) (st1 := [.inl (x1), .inl (s 125 0), .inr (.inr 126)]) (h1 := (px_G1, s)) rfl ?_
    by_cases hc2 : 0 ≤ (s 125 0) ∧ (s 125 0) < 16
    case neg => rw [if_neg hc2] at h; cases h
    rw [if_pos hc2] at h
    refine px_D_iast (k := 121) (n := 16) rfl rfl hc2 ?_
    refine px_D_st 5 (ip1 := 15) (ls1 := [(0, .inr (.inr 125)), (1, .inl (x1)), (2, .inl (x2)), (3, .inl (x3))]) (st1 := [.inl (x2), .inl ((px_up s 126 (s 125 0).toNat x1) 125 0), .inr (.inr 127)]) (h1 := (px_G1, px_up s 126 (s 125 0).toNat x1)) rfl ?_
    by_cases hc3 : 0 ≤ ((px_up s 126 (s 125 0).toNat x1) 125 0) ∧ ((px_up s 126 (s 125 0).toNat x1) 125 0) < 16
    case neg => rw [if_neg hc3] at h; cases h
    rw [if_pos hc3] at h
    refine px_D_iast (k := 122) (n := 16) rfl rfl hc3 ?_
    refine px_D_st 5 (ip1 := 21) (ls1 := [(0, .inr (.inr 125)), (1, .inl (x1)), (2, .inl (x2)), (3, .inl (x3))]) (st1 := [.inl (x3), .inl ((px_up (px_up s 126 (s 125 0).toNat x1) 127 ((px_up s 126 (s 125 0).toNat x1) 125 0).toNat x2) 125 0), .inr (.inr 128)]) (h1 := (px_G1, px_up (px_up s 126 (s 125 0).toNat x1) 127 ((px_up s 126 (s 125 0).toNat x1) 125 0).toNat x2)) rfl ?_
    by_cases hc4 : 0 ≤ ((px_up (px_up s 126 (s 125 0).toNat x1) 127 ((px_up s 126 (s 125 0).toNat x1) 125 0).toNat x2) 125 0) ∧ ((px_up (px_up s 126 (s 125 0).toNat x1) 127 ((px_up s 126 (s 125 0).toNat x1) 125 0).toNat x2) 125 0) < 16
    case neg => rw [if_neg hc4] at h; cases h
    rw [if_pos hc4] at h
    refine px_D_iast (k := 123) (n := 16) rfl rfl hc4 ?_
    refine px_D_st 6 (ip1 := 28) (ls1 := [(0, .inr (.inr 125)), (1, .inl (x1)), (2, .inl (x2)), (3, .inl (x3))]) (st1 := [.inl ((px_up (px_up (px_up s 126 (s 125 0).toNat x1) 127 ((px_up s 126 (s 125 0).toNat x1) 125 0).toNat x2) 128 ((px_up (px_up s 126 (s 125 0).toNat x1) 127 ((px_up s 126 (s 125 0).toNat x1) 125 0).toNat x2) 125 0).toNat x3) 125 1), .inl ((px_up (px_up (px_up s 126 (s 125 0).toNat x1) 127 ((px_up s 126 (s 125 0).toNat x1) 125 0).toNat x2) 128 ((px_up (px_up s 126 (s 125 0).toNat x1) 127 ((px_up s 126 (s 125 0).toNat x1) 125 0).toNat x2) 125 0).toNat x3) 125 0), .inr (.inr 129)]) (h1 := (px_G1, px_up (px_up (px_up s 126 (s 125 0).toNat x1) 127 ((px_up s 126 (s 125 0).toNat x1) 125 0).toNat x2) 128 ((px_up (px_up s 126 (s 125 0).toNat x1) 127 ((px_up s 126 (s 125 0).toNat x1) 125 0).toNat x2) 125 0).toNat x3)) rfl ?_
    by_cases hc5 : 0 ≤ ((px_up (px_up (px_up s 126 (s 125 0).toNat x1) 127 ((px_up s 126 (s 125 0).toNat x1) 125 0).toNat x2) 128 ((px_up (px_up s 126 (s 125 0).toNat x1) 127 ((px_up s 126 (s 125 0).toNat x1) 125 0).toNat x2) 125 0).toNat x3) 125 0) ∧ ((px_up (px_up (px_up s 126 (s 125 0).toNat x1) 127 ((px_up s 126 (s 125 0).toNat x1) 125 0).toNat x2) 128 ((px_up (px_up s 126 (s 125 0).toNat x1) 127 ((px_up s 126 (s 125 0).toNat x1) 125 0).toNat x2) 125 0).toNat x3) 125 0) < 16
    case neg => rw [if_neg hc5] at h; cases h
    rw [if_pos hc5] at h
    refine px_D_iast (k := 124) (n := 16) rfl rfl hc5 ?_
    refine px_D_st 6 (ip1 := 35) (ls1 := [(0, .inr (.inr 125)), (1, .inl (x1)), (2, .inl (x2)), (3, .inl (x3))]) (st1 := []) (h1 := (px_G1, px_up (px_up (px_up (px_up (px_up s 126 (s 125 0).toNat x1) 127 ((px_up s 126 (s 125 0).toNat x1) 125 0).toNat x2) 128 ((px_up (px_up s 126 (s 125 0).toNat x1) 127 ((px_up s 126 (s 125 0).toNat x1) 125 0).toNat x2) 125 0).toNat x3) 129 ((px_up (px_up (px_up s 126 (s 125 0).toNat x1) 127 ((px_up s 126 (s 125 0).toNat x1) 125 0).toNat x2) 128 ((px_up (px_up s 126 (s 125 0).toNat x1) 127 ((px_up s 126 (s 125 0).toNat x1) 125 0).toNat x2) 125 0).toNat x3) 125 0).toNat ((px_up (px_up (px_up s 126 (s 125 0).toNat x1) 127 ((px_up s 126 (s 125 0).toNat x1) 125 0).toNat x2) 128 ((px_up (px_up s 126 (s 125 0).toNat x1) 127 ((px_up s 126 (s 125 0).toNat x1) 125 0).toNat x2) 125 0).toNat x3) 125 1)) 125 0 (px_wr (((px_up (px_up (px_up (px_up s 126 (s 125 0).toNat x1) 127 ((px_up s 126 (s 125 0).toNat x1) 125 0).toNat x2) 128 ((px_up (px_up s 126 (s 125 0).toNat x1) 127 ((px_up s 126 (s 125 0).toNat x1) 125 0).toNat x2) 125 0).toNat x3) 129 ((px_up (px_up (px_up s 126 (s 125 0).toNat x1) 127 ((px_up s 126 (s 125 0).toNat x1) 125 0).toNat x2) 128 ((px_up (px_up s 126 (s 125 0).toNat x1) 127 ((px_up s 126 (s 125 0).toNat x1) 125 0).toNat x2) 125 0).toNat x3) 125 0).toNat ((px_up (px_up (px_up s 126 (s 125 0).toNat x1) 127 ((px_up s 126 (s 125 0).toNat x1) 125 0).toNat x2) 128 ((px_up (px_up s 126 (s 125 0).toNat x1) 127 ((px_up s 126 (s 125 0).toNat x1) 125 0).toNat x2) 125 0).toNat x3) 125 1)) 125 0) + 1)))) rfl ?_
    cases h
    exact px_D_vret rfl ⟨rfl, rfl⟩

def f_Law_put (s : px_Z) (x1 : Int) : Option (px_Z) := if (400) ≤ (s 125 1) then some s else (if 0 ≤ (s 125 1) ∧ (s 125 1) < 400 then some (px_up (px_up s 130 (s 125 1).toNat x1) 125 1 (px_wr (((px_up s 130 (s 125 1).toNat x1) 125 1) + 1))) else none)
set_option maxHeartbeats 4000000 in
set_option maxRecDepth 100000 in
theorem c_Law_put {sc : List Int} {d : Nat} {s : px_Z} {x1 : Int} {out : px_Z} (h : f_Law_put s x1 = some out) : px_D sc (d + 0) 14 0 [(0, .inr (.inr 125)), (1, .inl (x1))] [] (px_G1, s) (px_Qv out) := by
  unfold f_Law_put at h
  refine px_D_st 3 (ip1 := 3) (ls1 := [(0, .inr (.inr 125)), (1, .inl (x1))]) (st1 := [.inl (400), .inl (s 125 1)]) (h1 := (px_G1, s)) rfl ?_
  refine px_D_icmp rfl (fun hc => ?_) (fun hc => ?_)
  · have hc1 : (400) ≤ (s 125 1) := of_decide_eq_true hc
    rw [if_pos hc1] at h
    cases h
    exact px_D_vret rfl ⟨rfl, rfl⟩
  · have hc1 : ¬ ((400) ≤ (s 125 1)) := of_decide_eq_false hc
    rw [if_neg hc1] at h
    refine px_D_st 5 (ip1 := 9) (ls1 := [(0, .inr (.inr 125)), (1, .inl (x1))]) (st1 := [.inl (x1), .inl (s 125 1), .inr (.inr 130)]) (h1 := (px_G1, s)) rfl ?_
    by_cases hc2 : 0 ≤ (s 125 1) ∧ (s 125 1) < 400
    case neg => rw [if_neg hc2] at h; cases h
    rw [if_pos hc2] at h
    refine px_D_iast (k := 125) (n := 400) rfl rfl hc2 ?_
    refine px_D_st 6 (ip1 := 16) (ls1 := [(0, .inr (.inr 125)), (1, .inl (x1))]) (st1 := []) (h1 := (px_G1, px_up (px_up s 130 (s 125 1).toNat x1) 125 1 (px_wr (((px_up s 130 (s 125 1).toNat x1) 125 1) + 1)))) rfl ?_
    cases h
    exact px_D_vret rfl ⟨rfl, rfl⟩

def j_Reader_readUnit_j13 (s : px_Z) (x1 : Int) (t0 : Int) (t1 : Int) : Option (px_Z) := if (x1) = (1) then (if 0 ≤ (s 121 4) ∧ (s 121 4) < 401 then (f_Law_put s (px_wr (1000 + (s 123 (s 121 4).toNat)))).bind (fun q9 => (f_Reader_step q9 ).bind (fun q10 => some q10)) else none) else (if (f_R_within s x1 256 (px_wr (t1 + t0))) = (0) then (f_Reader_fail s 1).bind (fun q5 => some q5) else (f_Law_put s x1).bind (fun q6 => (f_Reader_step q6 ).bind (fun q7 => some q7)))
set_option maxHeartbeats 4000000 in
set_option maxRecDepth 100000 in
theorem cj_Reader_readUnit_j13 {sc : List Int} {d : Nat} {s : px_Z} {x1 : Int} {t0 : Int} {t1 : Int} {out : px_Z} (h : j_Reader_readUnit_j13 s x1 t0 t1 = some out) : px_D sc (d + 1) 55 13 [(0, .inr (.inr 121)), (1, .inl (x1))] [.inl (t0), .inl (t1)] (px_G1, s) (px_Qv out) := by
  unfold j_Reader_readUnit_j13 at h
  refine px_D_st 4 (ip1 := 17) (ls1 := [(2, .inl (px_wr (t1 + t0))), (0, .inr (.inr 121)), (1, .inl (x1))]) (st1 := [.inl (1), .inl (x1)]) (h1 := (px_G1, s)) rfl ?_
  refine px_D_icmp rfl (fun hc => ?_) (fun hc => ?_)
  · have hc3 : ¬ ((x1) = (1)) := of_decide_eq_true hc
    rw [if_neg hc3] at h
    refine px_D_st 3 (ip1 := 34) (ls1 := [(2, .inl (px_wr (t1 + t0))), (0, .inr (.inr 121)), (1, .inl (x1))]) (st1 := [.inl (px_wr (t1 + t0)), .inl (256), .inl (x1)]) (h1 := (px_G1, s)) rfl ?_
    refine px_D_call (as := [.inl (x1), .inl (256), .inl (px_wr (t1 + t0))]) (rest := []) rfl rfl rfl rfl ?_
    refine px_D_mono (c_R_within (d := d + 0) rfl) ?_
    rintro _ _ ⟨rfl, rfl⟩
    show px_D sc (d + 1) 55 35 [(2, .inl (px_wr (t1 + t0))), (0, .inr (.inr 121)), (1, .inl (x1))] [.inl (f_R_within s x1 256 (px_wr (t1 + t0)))] (px_G1, s) _
    refine px_D_ifc rfl (fun hc => ?_) (fun hc => ?_)
    · have hc4 : (f_R_within s x1 256 (px_wr (t1 + t0))) = (0) := of_decide_eq_true hc
      rw [if_pos hc4] at h
      refine px_D_st 2 (ip1 := 45) (ls1 := [(2, .inl (px_wr (t1 + t0))), (0, .inr (.inr 121)), (1, .inl (x1))]) (st1 := [.inl (1), .inr (.inr 121)]) (h1 := (px_G1, s)) rfl ?_
      refine px_D_call (as := [.inr (.inr 121), .inl (1)]) (rest := []) rfl rfl rfl rfl ?_
      obtain ⟨q5, hq5, h⟩ := Option.bind_eq_some_iff.mp h
      refine px_D_mono (c_Reader_fail (d := d + 0) hq5) ?_
      rintro _ _ ⟨rfl, rfl⟩
      show px_D sc (d + 1) 55 46 [(2, .inl (px_wr (t1 + t0))), (0, .inr (.inr 121)), (1, .inl (x1))] [] (px_G1, q5) _
      cases h
      exact px_D_vret rfl ⟨rfl, rfl⟩
    · have hc4 : ¬ ((f_R_within s x1 256 (px_wr (t1 + t0))) = (0)) := of_decide_eq_false hc
      rw [if_neg hc4] at h
      refine px_D_st 3 (ip1 := 39) (ls1 := [(2, .inl (px_wr (t1 + t0))), (0, .inr (.inr 121)), (1, .inl (x1))]) (st1 := [.inl (x1), .inr (.inr 125)]) (h1 := (px_G1, s)) rfl ?_
      refine px_D_call (as := [.inr (.inr 125), .inl (x1)]) (rest := []) rfl rfl rfl rfl ?_
      obtain ⟨q6, hq6, h⟩ := Option.bind_eq_some_iff.mp h
      refine px_D_mono (c_Law_put (d := d + 0) hq6) ?_
      rintro _ _ ⟨rfl, rfl⟩
      show px_D sc (d + 1) 55 40 [(2, .inl (px_wr (t1 + t0))), (0, .inr (.inr 121)), (1, .inl (x1))] [] (px_G1, q6) _
      refine px_D_st 1 (ip1 := 41) (ls1 := [(2, .inl (px_wr (t1 + t0))), (0, .inr (.inr 121)), (1, .inl (x1))]) (st1 := [.inr (.inr 121)]) (h1 := (px_G1, q6)) rfl ?_
      refine px_D_call (as := [.inr (.inr 121)]) (rest := []) rfl rfl rfl rfl ?_
      obtain ⟨q7, hq7, h⟩ := Option.bind_eq_some_iff.mp h
      refine px_D_mono (c_Reader_step (d := d + 0) hq7) ?_
      rintro _ _ ⟨rfl, rfl⟩
      show px_D sc (d + 1) 55 42 [(2, .inl (px_wr (t1 + t0))), (0, .inr (.inr 121)), (1, .inl (x1))] [] (px_G1, q7) _
      refine px_D_st 1 (ip1 := 46) (ls1 := [(2, .inl (px_wr (t1 + t0))), (0, .inr (.inr 121)), (1, .inl (x1))]) (st1 := []) (h1 := (px_G1, q7)) rfl ?_
      cases h
      exact px_D_vret rfl ⟨rfl, rfl⟩
  · have hc3 : (x1) = (1) := Decidable.of_not_not (of_decide_eq_false hc)
    rw [if_pos hc3] at h
    refine px_D_st 7 (ip1 := 25) (ls1 := [(2, .inl (px_wr (t1 + t0))), (0, .inr (.inr 121)), (1, .inl (x1))]) (st1 := [.inl (s 121 4), .inr (.inr 123), .inl (1000), .inr (.inr 125)]) (h1 := (px_G1, s)) rfl ?_
    by_cases hc8 : 0 ≤ (s 121 4) ∧ (s 121 4) < 401
    case neg => rw [if_neg hc8] at h; cases h
    rw [if_pos hc8] at h
    refine px_D_iald (k := 118) (n := 401) rfl rfl hc8 ?_
    refine px_D_st 1 (ip1 := 27) (ls1 := [(2, .inl (px_wr (t1 + t0))), (0, .inr (.inr 121)), (1, .inl (x1))]) (st1 := [.inl (px_wr (1000 + (s 123 (s 121 4).toNat))), .inr (.inr 125)]) (h1 := (px_G1, s)) rfl ?_
    refine px_D_call (as := [.inr (.inr 125), .inl (px_wr (1000 + (s 123 (s 121 4).toNat)))]) (rest := []) rfl rfl rfl rfl ?_
    obtain ⟨q9, hq9, h⟩ := Option.bind_eq_some_iff.mp h
    refine px_D_mono (c_Law_put (d := d + 0) hq9) ?_
    rintro _ _ ⟨rfl, rfl⟩
    show px_D sc (d + 1) 55 28 [(2, .inl (px_wr (t1 + t0))), (0, .inr (.inr 121)), (1, .inl (x1))] [] (px_G1, q9) _
    refine px_D_st 1 (ip1 := 29) (ls1 := [(2, .inl (px_wr (t1 + t0))), (0, .inr (.inr 121)), (1, .inl (x1))]) (st1 := [.inr (.inr 121)]) (h1 := (px_G1, q9)) rfl ?_
    refine px_D_call (as := [.inr (.inr 121)]) (rest := []) rfl rfl rfl rfl ?_
    obtain ⟨q10, hq10, h⟩ := Option.bind_eq_some_iff.mp h
    refine px_D_mono (c_Reader_step (d := d + 0) hq10) ?_
    rintro _ _ ⟨rfl, rfl⟩
    show px_D sc (d + 1) 55 30 [(2, .inl (px_wr (t1 + t0))), (0, .inr (.inr 121)), (1, .inl (x1))] [] (px_G1, q10) _
    refine px_D_st 1 (ip1 := 46) (ls1 := [(2, .inl (px_wr (t1 + t0))), (0, .inr (.inr 121)), (1, .inl (x1))]) (st1 := []) (h1 := (px_G1, q10)) rfl ?_
    cases h
    exact px_D_vret rfl ⟨rfl, rfl⟩
def f_Reader_readUnit (s : px_Z) : Option (px_Z) := if 0 ≤ (s 121 4) ∧ (s 121 4) < 401 then if (s 121 6) = (0) then j_Reader_readUnit_j13 s (s 122 (s 121 4).toNat) 6 256 else j_Reader_readUnit_j13 s (s 122 (s 121 4).toNat) 8 256 else none
set_option maxHeartbeats 4000000 in
set_option maxRecDepth 100000 in
theorem c_Reader_readUnit {sc : List Int} {d : Nat} {s : px_Z} {out : px_Z} (h : f_Reader_readUnit s  = some out) : px_D sc (d + 1) 55 0 [(0, .inr (.inr 121))] [] (px_G1, s) (px_Qv out) := by
  unfold f_Reader_readUnit at h
  refine px_D_st 4 (ip1 := 4) (ls1 := [(0, .inr (.inr 121))]) (st1 := [.inl (s 121 4), .inr (.inr 122)]) (h1 := (px_G1, s)) rfl ?_
  by_cases hc1 : 0 ≤ (s 121 4) ∧ (s 121 4) < 401
  case neg => rw [if_neg hc1] at h; cases h
  rw [if_pos hc1] at h
  refine px_D_iald (k := 117) (n := 401) rfl rfl hc1 ?_
  refine px_D_st 4 (ip1 := 9) (ls1 := [(1, .inl (s 122 (s 121 4).toNat)), (0, .inr (.inr 121))]) (st1 := [.inl (s 121 6), .inl (256)]) (h1 := (px_G1, s)) rfl ?_
  refine px_D_ifc rfl (fun hc => ?_) (fun hc => ?_)
  · have hc2 : (s 121 6) = (0) := of_decide_eq_true hc
    rw [if_pos hc2] at h
    refine px_D_st 1 (ip1 := 13) (ls1 := [(1, .inl (s 122 (s 121 4).toNat)), (0, .inr (.inr 121))]) (st1 := [.inl (6), .inl (256)]) (h1 := (px_G1, s)) rfl ?_
    refine px_D_ls [(0, .inr (.inr 121)), (1, .inl (s 122 (s 121 4).toNat))] rfl rfl (List.forall_mem_cons.mpr ⟨rfl, List.forall_mem_cons.mpr ⟨rfl, fun _ h => absurd h List.not_mem_nil⟩⟩) ?_
    exact cj_Reader_readUnit_j13 h
  · have hc2 : ¬ ((s 121 6) = (0)) := of_decide_eq_false hc
    rw [if_neg hc2] at h
    refine px_D_st 2 (ip1 := 13) (ls1 := [(1, .inl (s 122 (s 121 4).toNat)), (0, .inr (.inr 121))]) (st1 := [.inl (8), .inl (256)]) (h1 := (px_G1, s)) rfl ?_
    refine px_D_ls [(0, .inr (.inr 121)), (1, .inl (s 122 (s 121 4).toNat))] rfl rfl (List.forall_mem_cons.mpr ⟨rfl, List.forall_mem_cons.mpr ⟨rfl, fun _ h => absurd h List.not_mem_nil⟩⟩) ?_
    exact cj_Reader_readUnit_j13 h

def l_Reader_readSum_6  : Nat → px_Z → Int → Int → Option (px_Z)
  | 0, _, _, _ => none
  | n + 1, s, x1, x2 => if (400) ≤ (x2) then some s else (if (s 121 7) = (0) then (if 0 ≤ (s 121 4) ∧ (s 121 4) < 401 then if (s 122 (s 121 4).toNat) = (42) then (f_Reader_step s ).bind (fun q25 => (f_Reader_readUnit q25 ).bind (fun q26 => (f_Law_put q26 (s 122 (s 121 4).toNat)).bind (fun q27 => l_Reader_readSum_6  n q27 x1 (px_wr (x2 + 1))))) else (if (s 122 (s 121 4).toNat) = (47) then (f_Reader_step s ).bind (fun q21 => (f_Reader_numberWithin q21 1 9999).bind (fun q22 => (f_Law_put q22.2 (px_wr (1000 + q22.1))).bind (fun q23 => (f_Law_put q23 (s 122 (s 121 4).toNat)).bind (fun q24 => l_Reader_readSum_6  n q24 x1 (px_wr (x2 + 1)))))) else (if (x1) = (0) then (if (s 122 (s 121 4).toNat) = (43) then (f_Reader_step s ).bind (fun q9 => (f_Reader_readUnit q9 ).bind (fun q10 => l_Reader_readSum_6  n q10 (s 122 (s 121 4).toNat) (px_wr (x2 + 1)))) else (if (s 122 (s 121 4).toNat) = (45) then (f_Reader_step s ).bind (fun q12 => (f_Reader_readUnit q12 ).bind (fun q13 => l_Reader_readSum_6  n q13 (s 122 (s 121 4).toNat) (px_wr (x2 + 1)))) else some s)) else (f_Law_put s x1).bind (fun q14 => if (s 122 (s 121 4).toNat) = (43) then (f_Reader_step q14 ).bind (fun q16 => (f_Reader_readUnit q16 ).bind (fun q17 => l_Reader_readSum_6  n q17 (s 122 (s 121 4).toNat) (px_wr (x2 + 1)))) else (if (s 122 (s 121 4).toNat) = (45) then (f_Reader_step q14 ).bind (fun q19 => (f_Reader_readUnit q19 ).bind (fun q20 => l_Reader_readSum_6  n q20 (s 122 (s 121 4).toNat) (px_wr (x2 + 1)))) else some q14)))) else none) else some s)
set_option maxHeartbeats 4000000 in
set_option maxRecDepth 100000 in
theorem cl_Reader_readSum_6 {sc : List Int} {d : Nat}  : ∀ (n : Nat) (s : px_Z) (x1 : Int) (x2 : Int) (out : px_Z), l_Reader_readSum_6  n s x1 x2 = some out → px_D sc (d + 2) 54 6 [(0, .inr (.inr 121)), (1, .inl (x1)), (2, .inl (x2))] [] (px_G1, s) (px_Qv out) := by
  intro n
  induction n with
  | zero => intro s x1 x2 out h; cases h
  | succ n ih =>
    intro s x1 x2 out h
    rw [l_Reader_readSum_6] at h
    refine px_D_st 2 (ip1 := 8) (ls1 := [(0, .inr (.inr 121)), (1, .inl (x1)), (2, .inl (x2))]) (st1 := [.inl (400), .inl (x2)]) (h1 := (px_G1, s)) rfl ?_
    refine px_D_icmp rfl (fun hc => ?_) (fun hc => ?_)
    · have hc2 : (400) ≤ (x2) := of_decide_eq_true hc
      rw [if_pos hc2] at h
      cases h
      exact px_D_vret rfl ⟨rfl, rfl⟩
    · have hc2 : ¬ ((400) ≤ (x2)) := of_decide_eq_false hc
      rw [if_neg hc2] at h
      refine px_D_st 2 (ip1 := 11) (ls1 := [(0, .inr (.inr 121)), (1, .inl (x1)), (2, .inl (x2))]) (st1 := [.inl (s 121 7)]) (h1 := (px_G1, s)) rfl ?_
      refine px_D_ifc rfl (fun hc => ?_) (fun hc => ?_)
      · have hc3 : ¬ ((s 121 7) = (0)) := of_decide_eq_true hc
        rw [if_neg hc3] at h
        cases h
        exact px_D_vret rfl ⟨rfl, rfl⟩
      · have hc3 : (s 121 7) = (0) := Decidable.of_not_not (of_decide_eq_false hc)
        rw [if_pos hc3] at h
        refine px_D_st 4 (ip1 := 16) (ls1 := [(0, .inr (.inr 121)), (1, .inl (x1)), (2, .inl (x2))]) (st1 := [.inl (s 121 4), .inr (.inr 122)]) (h1 := (px_G1, s)) rfl ?_
        by_cases hc4 : 0 ≤ (s 121 4) ∧ (s 121 4) < 401
        case neg => rw [if_neg hc4] at h; cases h
        rw [if_pos hc4] at h
        refine px_D_iald (k := 117) (n := 401) rfl rfl hc4 ?_
        refine px_D_st 3 (ip1 := 20) (ls1 := [(3, .inl (s 122 (s 121 4).toNat)), (0, .inr (.inr 121)), (1, .inl (x1)), (2, .inl (x2))]) (st1 := [.inl (42), .inl (s 122 (s 121 4).toNat)]) (h1 := (px_G1, s)) rfl ?_
        refine px_D_icmp rfl (fun hc => ?_) (fun hc => ?_)
        · have hc5 : ¬ ((s 122 (s 121 4).toNat) = (42)) := of_decide_eq_true hc
          rw [if_neg hc5] at h
          refine px_D_st 2 (ip1 := 32) (ls1 := [(3, .inl (s 122 (s 121 4).toNat)), (0, .inr (.inr 121)), (1, .inl (x1)), (2, .inl (x2))]) (st1 := [.inl (47), .inl (s 122 (s 121 4).toNat)]) (h1 := (px_G1, s)) rfl ?_
          refine px_D_icmp rfl (fun hc => ?_) (fun hc => ?_)
          · have hc6 : ¬ ((s 122 (s 121 4).toNat) = (47)) := of_decide_eq_true hc
            rw [if_neg hc6] at h
            refine px_D_st 1 (ip1 := 50) (ls1 := [(3, .inl (s 122 (s 121 4).toNat)), (0, .inr (.inr 121)), (1, .inl (x1)), (2, .inl (x2))]) (st1 := [.inl (x1)]) (h1 := (px_G1, s)) rfl ?_
            refine px_D_ifc rfl (fun hc => ?_) (fun hc => ?_)
            · have hc7 : (x1) = (0) := of_decide_eq_true hc
              rw [if_pos hc7] at h
              refine px_D_st 2 (ip1 := 57) (ls1 := [(3, .inl (s 122 (s 121 4).toNat)), (0, .inr (.inr 121)), (1, .inl (x1)), (2, .inl (x2))]) (st1 := [.inl (43), .inl (s 122 (s 121 4).toNat)]) (h1 := (px_G1, s)) rfl ?_
              refine px_D_icmp rfl (fun hc => ?_) (fun hc => ?_)
              · have hc8 : (s 122 (s 121 4).toNat) = (43) := of_decide_eq_true hc
                rw [if_pos hc8] at h
                refine px_D_st 3 (ip1 := 65) (ls1 := [(1, .inl (s 122 (s 121 4).toNat)), (3, .inl (s 122 (s 121 4).toNat)), (0, .inr (.inr 121)), (2, .inl (x2))]) (st1 := [.inr (.inr 121)]) (h1 := (px_G1, s)) rfl ?_
                refine px_D_call (as := [.inr (.inr 121)]) (rest := []) rfl rfl rfl rfl ?_
                obtain ⟨q9, hq9, h⟩ := Option.bind_eq_some_iff.mp h
                refine px_D_mono (c_Reader_step (d := d + 1) hq9) ?_
                rintro _ _ ⟨rfl, rfl⟩
                show px_D sc (d + 2) 54 66 [(1, .inl (s 122 (s 121 4).toNat)), (3, .inl (s 122 (s 121 4).toNat)), (0, .inr (.inr 121)), (2, .inl (x2))] [] (px_G1, q9) _
                refine px_D_st 1 (ip1 := 67) (ls1 := [(1, .inl (s 122 (s 121 4).toNat)), (3, .inl (s 122 (s 121 4).toNat)), (0, .inr (.inr 121)), (2, .inl (x2))]) (st1 := [.inr (.inr 121)]) (h1 := (px_G1, q9)) rfl ?_
                refine px_D_call (as := [.inr (.inr 121)]) (rest := []) rfl rfl rfl rfl ?_
                obtain ⟨q10, hq10, h⟩ := Option.bind_eq_some_iff.mp h
                refine px_D_mono (c_Reader_readUnit (d := d + 0) hq10) ?_
                rintro _ _ ⟨rfl, rfl⟩
                show px_D sc (d + 2) 54 68 [(1, .inl (s 122 (s 121 4).toNat)), (3, .inl (s 122 (s 121 4).toNat)), (0, .inr (.inr 121)), (2, .inl (x2))] [] (px_G1, q10) _
                refine px_D_st 2 (ip1 := 6) (ls1 := [(2, .inl (px_wr (x2 + 1))), (1, .inl (s 122 (s 121 4).toNat)), (3, .inl (s 122 (s 121 4).toNat)), (0, .inr (.inr 121))]) (st1 := []) (h1 := (px_G1, q10)) rfl ?_
                refine px_D_ls [(0, .inr (.inr 121)), (1, .inl (s 122 (s 121 4).toNat)), (2, .inl (px_wr (x2 + 1)))] rfl rfl (List.forall_mem_cons.mpr ⟨rfl, List.forall_mem_cons.mpr ⟨rfl, List.forall_mem_cons.mpr ⟨rfl, fun _ h => absurd h List.not_mem_nil⟩⟩⟩) ?_
                exact ih _ _ _ _ h
              · have hc8 : ¬ ((s 122 (s 121 4).toNat) = (43)) := of_decide_eq_false hc
                rw [if_neg hc8] at h
                refine px_D_st 2 (ip1 := 60) (ls1 := [(3, .inl (s 122 (s 121 4).toNat)), (0, .inr (.inr 121)), (1, .inl (x1)), (2, .inl (x2))]) (st1 := [.inl (45), .inl (s 122 (s 121 4).toNat)]) (h1 := (px_G1, s)) rfl ?_
                refine px_D_icmp rfl (fun hc => ?_) (fun hc => ?_)
                · have hc11 : (s 122 (s 121 4).toNat) = (45) := of_decide_eq_true hc
                  rw [if_pos hc11] at h
                  refine px_D_st 3 (ip1 := 65) (ls1 := [(1, .inl (s 122 (s 121 4).toNat)), (3, .inl (s 122 (s 121 4).toNat)), (0, .inr (.inr 121)), (2, .inl (x2))]) (st1 := [.inr (.inr 121)]) (h1 := (px_G1, s)) rfl ?_
                  refine px_D_call (as := [.inr (.inr 121)]) (rest := []) rfl rfl rfl rfl ?_
                  obtain ⟨q12, hq12, h⟩ := Option.bind_eq_some_iff.mp h
                  refine px_D_mono (c_Reader_step (d := d + 1) hq12) ?_
                  rintro _ _ ⟨rfl, rfl⟩
                  show px_D sc (d + 2) 54 66 [(1, .inl (s 122 (s 121 4).toNat)), (3, .inl (s 122 (s 121 4).toNat)), (0, .inr (.inr 121)), (2, .inl (x2))] [] (px_G1, q12) _
                  refine px_D_st 1 (ip1 := 67) (ls1 := [(1, .inl (s 122 (s 121 4).toNat)), (3, .inl (s 122 (s 121 4).toNat)), (0, .inr (.inr 121)), (2, .inl (x2))]) (st1 := [.inr (.inr 121)]) (h1 := (px_G1, q12)) rfl ?_
                  refine px_D_call (as := [.inr (.inr 121)]) (rest := []) rfl rfl rfl rfl ?_
                  obtain ⟨q13, hq13, h⟩ := Option.bind_eq_some_iff.mp h
                  refine px_D_mono (c_Reader_readUnit (d := d + 0) hq13) ?_
                  rintro _ _ ⟨rfl, rfl⟩
                  show px_D sc (d + 2) 54 68 [(1, .inl (s 122 (s 121 4).toNat)), (3, .inl (s 122 (s 121 4).toNat)), (0, .inr (.inr 121)), (2, .inl (x2))] [] (px_G1, q13) _
                  refine px_D_st 2 (ip1 := 6) (ls1 := [(2, .inl (px_wr (x2 + 1))), (1, .inl (s 122 (s 121 4).toNat)), (3, .inl (s 122 (s 121 4).toNat)), (0, .inr (.inr 121))]) (st1 := []) (h1 := (px_G1, q13)) rfl ?_
                  refine px_D_ls [(0, .inr (.inr 121)), (1, .inl (s 122 (s 121 4).toNat)), (2, .inl (px_wr (x2 + 1)))] rfl rfl (List.forall_mem_cons.mpr ⟨rfl, List.forall_mem_cons.mpr ⟨rfl, List.forall_mem_cons.mpr ⟨rfl, fun _ h => absurd h List.not_mem_nil⟩⟩⟩) ?_
                  exact ih _ _ _ _ h
                · have hc11 : ¬ ((s 122 (s 121 4).toNat) = (45)) := of_decide_eq_false hc
                  rw [if_neg hc11] at h
                  cases h
                  exact px_D_vret rfl ⟨rfl, rfl⟩
            · have hc7 : ¬ ((x1) = (0)) := of_decide_eq_false hc
              rw [if_neg hc7] at h
              refine px_D_st 3 (ip1 := 54) (ls1 := [(3, .inl (s 122 (s 121 4).toNat)), (0, .inr (.inr 121)), (1, .inl (x1)), (2, .inl (x2))]) (st1 := [.inl (x1), .inr (.inr 125)]) (h1 := (px_G1, s)) rfl ?_
              refine px_D_call (as := [.inr (.inr 125), .inl (x1)]) (rest := []) rfl rfl rfl rfl ?_
              obtain ⟨q14, hq14, h⟩ := Option.bind_eq_some_iff.mp h
              refine px_D_mono (c_Law_put (d := d + 1) hq14) ?_
              rintro _ _ ⟨rfl, rfl⟩
              show px_D sc (d + 2) 54 55 [(3, .inl (s 122 (s 121 4).toNat)), (0, .inr (.inr 121)), (1, .inl (x1)), (2, .inl (x2))] [] (px_G1, q14) _
              refine px_D_st 2 (ip1 := 57) (ls1 := [(3, .inl (s 122 (s 121 4).toNat)), (0, .inr (.inr 121)), (1, .inl (x1)), (2, .inl (x2))]) (st1 := [.inl (43), .inl (s 122 (s 121 4).toNat)]) (h1 := (px_G1, q14)) rfl ?_
              refine px_D_icmp rfl (fun hc => ?_) (fun hc => ?_)
              · have hc15 : (s 122 (s 121 4).toNat) = (43) := of_decide_eq_true hc
                rw [if_pos hc15] at h
                refine px_D_st 3 (ip1 := 65) (ls1 := [(1, .inl (s 122 (s 121 4).toNat)), (3, .inl (s 122 (s 121 4).toNat)), (0, .inr (.inr 121)), (2, .inl (x2))]) (st1 := [.inr (.inr 121)]) (h1 := (px_G1, q14)) rfl ?_
                refine px_D_call (as := [.inr (.inr 121)]) (rest := []) rfl rfl rfl rfl ?_
                obtain ⟨q16, hq16, h⟩ := Option.bind_eq_some_iff.mp h
                refine px_D_mono (c_Reader_step (d := d + 1) hq16) ?_
                rintro _ _ ⟨rfl, rfl⟩
                show px_D sc (d + 2) 54 66 [(1, .inl (s 122 (s 121 4).toNat)), (3, .inl (s 122 (s 121 4).toNat)), (0, .inr (.inr 121)), (2, .inl (x2))] [] (px_G1, q16) _
                refine px_D_st 1 (ip1 := 67) (ls1 := [(1, .inl (s 122 (s 121 4).toNat)), (3, .inl (s 122 (s 121 4).toNat)), (0, .inr (.inr 121)), (2, .inl (x2))]) (st1 := [.inr (.inr 121)]) (h1 := (px_G1, q16)) rfl ?_
                refine px_D_call (as := [.inr (.inr 121)]) (rest := []) rfl rfl rfl rfl ?_
                obtain ⟨q17, hq17, h⟩ := Option.bind_eq_some_iff.mp h
                refine px_D_mono (c_Reader_readUnit (d := d + 0) hq17) ?_
                rintro _ _ ⟨rfl, rfl⟩
                show px_D sc (d + 2) 54 68 [(1, .inl (s 122 (s 121 4).toNat)), (3, .inl (s 122 (s 121 4).toNat)), (0, .inr (.inr 121)), (2, .inl (x2))] [] (px_G1, q17) _
                refine px_D_st 2 (ip1 := 6) (ls1 := [(2, .inl (px_wr (x2 + 1))), (1, .inl (s 122 (s 121 4).toNat)), (3, .inl (s 122 (s 121 4).toNat)), (0, .inr (.inr 121))]) (st1 := []) (h1 := (px_G1, q17)) rfl ?_
                refine px_D_ls [(0, .inr (.inr 121)), (1, .inl (s 122 (s 121 4).toNat)), (2, .inl (px_wr (x2 + 1)))] rfl rfl (List.forall_mem_cons.mpr ⟨rfl, List.forall_mem_cons.mpr ⟨rfl, List.forall_mem_cons.mpr ⟨rfl, fun _ h => absurd h List.not_mem_nil⟩⟩⟩) ?_
                exact ih _ _ _ _ h
              · have hc15 : ¬ ((s 122 (s 121 4).toNat) = (43)) := of_decide_eq_false hc
                rw [if_neg hc15] at h
                refine px_D_st 2 (ip1 := 60) (ls1 := [(3, .inl (s 122 (s 121 4).toNat)), (0, .inr (.inr 121)), (1, .inl (x1)), (2, .inl (x2))]) (st1 := [.inl (45), .inl (s 122 (s 121 4).toNat)]) (h1 := (px_G1, q14)) rfl ?_
                refine px_D_icmp rfl (fun hc => ?_) (fun hc => ?_)
                · have hc18 : (s 122 (s 121 4).toNat) = (45) := of_decide_eq_true hc
                  rw [if_pos hc18] at h
                  refine px_D_st 3 (ip1 := 65) (ls1 := [(1, .inl (s 122 (s 121 4).toNat)), (3, .inl (s 122 (s 121 4).toNat)), (0, .inr (.inr 121)), (2, .inl (x2))]) (st1 := [.inr (.inr 121)]) (h1 := (px_G1, q14)) rfl ?_
                  refine px_D_call (as := [.inr (.inr 121)]) (rest := []) rfl rfl rfl rfl ?_
                  obtain ⟨q19, hq19, h⟩ := Option.bind_eq_some_iff.mp h
                  refine px_D_mono (c_Reader_step (d := d + 1) hq19) ?_
                  rintro _ _ ⟨rfl, rfl⟩
                  show px_D sc (d + 2) 54 66 [(1, .inl (s 122 (s 121 4).toNat)), (3, .inl (s 122 (s 121 4).toNat)), (0, .inr (.inr 121)), (2, .inl (x2))] [] (px_G1, q19) _
                  refine px_D_st 1 (ip1 := 67) (ls1 := [(1, .inl (s 122 (s 121 4).toNat)), (3, .inl (s 122 (s 121 4).toNat)), (0, .inr (.inr 121)), (2, .inl (x2))]) (st1 := [.inr (.inr 121)]) (h1 := (px_G1, q19)) rfl ?_
                  refine px_D_call (as := [.inr (.inr 121)]) (rest := []) rfl rfl rfl rfl ?_
                  obtain ⟨q20, hq20, h⟩ := Option.bind_eq_some_iff.mp h
                  refine px_D_mono (c_Reader_readUnit (d := d + 0) hq20) ?_
                  rintro _ _ ⟨rfl, rfl⟩
                  show px_D sc (d + 2) 54 68 [(1, .inl (s 122 (s 121 4).toNat)), (3, .inl (s 122 (s 121 4).toNat)), (0, .inr (.inr 121)), (2, .inl (x2))] [] (px_G1, q20) _
                  refine px_D_st 2 (ip1 := 6) (ls1 := [(2, .inl (px_wr (x2 + 1))), (1, .inl (s 122 (s 121 4).toNat)), (3, .inl (s 122 (s 121 4).toNat)), (0, .inr (.inr 121))]) (st1 := []) (h1 := (px_G1, q20)) rfl ?_
                  refine px_D_ls [(0, .inr (.inr 121)), (1, .inl (s 122 (s 121 4).toNat)), (2, .inl (px_wr (x2 + 1)))] rfl rfl (List.forall_mem_cons.mpr ⟨rfl, List.forall_mem_cons.mpr ⟨rfl, List.forall_mem_cons.mpr ⟨rfl, fun _ h => absurd h List.not_mem_nil⟩⟩⟩) ?_
                  exact ih _ _ _ _ h
                · have hc18 : ¬ ((s 122 (s 121 4).toNat) = (45)) := of_decide_eq_false hc
                  rw [if_neg hc18] at h
                  cases h
                  exact px_D_vret rfl ⟨rfl, rfl⟩
          · have hc6 : (s 122 (s 121 4).toNat) = (47) := Decidable.of_not_not (of_decide_eq_false hc)
            rw [if_pos hc6] at h
            refine px_D_st 1 (ip1 := 34) (ls1 := [(3, .inl (s 122 (s 121 4).toNat)), (0, .inr (.inr 121)), (1, .inl (x1)), (2, .inl (x2))]) (st1 := [.inr (.inr 121)]) (h1 := (px_G1, s)) rfl ?_
            refine px_D_call (as := [.inr (.inr 121)]) (rest := []) rfl rfl rfl rfl ?_
            obtain ⟨q21, hq21, h⟩ := Option.bind_eq_some_iff.mp h
            refine px_D_mono (c_Reader_step (d := d + 1) hq21) ?_
            rintro _ _ ⟨rfl, rfl⟩
            show px_D sc (d + 2) 54 35 [(3, .inl (s 122 (s 121 4).toNat)), (0, .inr (.inr 121)), (1, .inl (x1)), (2, .inl (x2))] [] (px_G1, q21) _
            refine px_D_st 6 (ip1 := 41) (ls1 := [(3, .inl (s 122 (s 121 4).toNat)), (0, .inr (.inr 121)), (1, .inl (x1)), (2, .inl (x2))]) (st1 := [.inl (9999), .inl (1), .inr (.inr 121), .inl (1000), .inr (.inr 125)]) (h1 := (px_G1, q21)) rfl ?_
            refine px_D_call (as := [.inr (.inr 121), .inl (1), .inl (9999)]) (rest := [.inl (1000), .inr (.inr 125)]) rfl rfl rfl rfl ?_
            obtain ⟨q22, hq22, h⟩ := Option.bind_eq_some_iff.mp h
            refine px_D_mono (c_Reader_numberWithin (d := d + 0) hq22) ?_
            rintro _ _ ⟨rfl, rfl⟩
            show px_D sc (d + 2) 54 42 [(3, .inl (s 122 (s 121 4).toNat)), (0, .inr (.inr 121)), (1, .inl (x1)), (2, .inl (x2))] [.inl (q22.1), .inl (1000), .inr (.inr 125)] (px_G1, q22.2) _
            refine px_D_st 1 (ip1 := 43) (ls1 := [(3, .inl (s 122 (s 121 4).toNat)), (0, .inr (.inr 121)), (1, .inl (x1)), (2, .inl (x2))]) (st1 := [.inl (px_wr (1000 + q22.1)), .inr (.inr 125)]) (h1 := (px_G1, q22.2)) rfl ?_
            refine px_D_call (as := [.inr (.inr 125), .inl (px_wr (1000 + q22.1))]) (rest := []) rfl rfl rfl rfl ?_
            obtain ⟨q23, hq23, h⟩ := Option.bind_eq_some_iff.mp h
            refine px_D_mono (c_Law_put (d := d + 1) hq23) ?_
            rintro _ _ ⟨rfl, rfl⟩
            show px_D sc (d + 2) 54 44 [(3, .inl (s 122 (s 121 4).toNat)), (0, .inr (.inr 121)), (1, .inl (x1)), (2, .inl (x2))] [] (px_G1, q23) _
            refine px_D_st 3 (ip1 := 47) (ls1 := [(3, .inl (s 122 (s 121 4).toNat)), (0, .inr (.inr 121)), (1, .inl (x1)), (2, .inl (x2))]) (st1 := [.inl (s 122 (s 121 4).toNat), .inr (.inr 125)]) (h1 := (px_G1, q23)) rfl ?_
            refine px_D_call (as := [.inr (.inr 125), .inl (s 122 (s 121 4).toNat)]) (rest := []) rfl rfl rfl rfl ?_
            obtain ⟨q24, hq24, h⟩ := Option.bind_eq_some_iff.mp h
            refine px_D_mono (c_Law_put (d := d + 1) hq24) ?_
            rintro _ _ ⟨rfl, rfl⟩
            show px_D sc (d + 2) 54 48 [(3, .inl (s 122 (s 121 4).toNat)), (0, .inr (.inr 121)), (1, .inl (x1)), (2, .inl (x2))] [] (px_G1, q24) _
            refine px_D_st 3 (ip1 := 6) (ls1 := [(2, .inl (px_wr (x2 + 1))), (3, .inl (s 122 (s 121 4).toNat)), (0, .inr (.inr 121)), (1, .inl (x1))]) (st1 := []) (h1 := (px_G1, q24)) rfl ?_
            refine px_D_ls [(0, .inr (.inr 121)), (1, .inl (x1)), (2, .inl (px_wr (x2 + 1)))] rfl rfl (List.forall_mem_cons.mpr ⟨rfl, List.forall_mem_cons.mpr ⟨rfl, List.forall_mem_cons.mpr ⟨rfl, fun _ h => absurd h List.not_mem_nil⟩⟩⟩) ?_
            exact ih _ _ _ _ h
        · have hc5 : (s 122 (s 121 4).toNat) = (42) := Decidable.of_not_not (of_decide_eq_false hc)
          rw [if_pos hc5] at h
          refine px_D_st 1 (ip1 := 22) (ls1 := [(3, .inl (s 122 (s 121 4).toNat)), (0, .inr (.inr 121)), (1, .inl (x1)), (2, .inl (x2))]) (st1 := [.inr (.inr 121)]) (h1 := (px_G1, s)) rfl ?_
          refine px_D_call (as := [.inr (.inr 121)]) (rest := []) rfl rfl rfl rfl ?_
          obtain ⟨q25, hq25, h⟩ := Option.bind_eq_some_iff.mp h
          refine px_D_mono (c_Reader_step (d := d + 1) hq25) ?_
          rintro _ _ ⟨rfl, rfl⟩
          show px_D sc (d + 2) 54 23 [(3, .inl (s 122 (s 121 4).toNat)), (0, .inr (.inr 121)), (1, .inl (x1)), (2, .inl (x2))] [] (px_G1, q25) _
          refine px_D_st 1 (ip1 := 24) (ls1 := [(3, .inl (s 122 (s 121 4).toNat)), (0, .inr (.inr 121)), (1, .inl (x1)), (2, .inl (x2))]) (st1 := [.inr (.inr 121)]) (h1 := (px_G1, q25)) rfl ?_
          refine px_D_call (as := [.inr (.inr 121)]) (rest := []) rfl rfl rfl rfl ?_
          obtain ⟨q26, hq26, h⟩ := Option.bind_eq_some_iff.mp h
          refine px_D_mono (c_Reader_readUnit (d := d + 0) hq26) ?_
          rintro _ _ ⟨rfl, rfl⟩
          show px_D sc (d + 2) 54 25 [(3, .inl (s 122 (s 121 4).toNat)), (0, .inr (.inr 121)), (1, .inl (x1)), (2, .inl (x2))] [] (px_G1, q26) _
          refine px_D_st 3 (ip1 := 28) (ls1 := [(3, .inl (s 122 (s 121 4).toNat)), (0, .inr (.inr 121)), (1, .inl (x1)), (2, .inl (x2))]) (st1 := [.inl (s 122 (s 121 4).toNat), .inr (.inr 125)]) (h1 := (px_G1, q26)) rfl ?_
          refine px_D_call (as := [.inr (.inr 125), .inl (s 122 (s 121 4).toNat)]) (rest := []) rfl rfl rfl rfl ?_
          obtain ⟨q27, hq27, h⟩ := Option.bind_eq_some_iff.mp h
          refine px_D_mono (c_Law_put (d := d + 1) hq27) ?_
          rintro _ _ ⟨rfl, rfl⟩
          show px_D sc (d + 2) 54 29 [(3, .inl (s 122 (s 121 4).toNat)), (0, .inr (.inr 121)), (1, .inl (x1)), (2, .inl (x2))] [] (px_G1, q27) _
          refine px_D_st 3 (ip1 := 6) (ls1 := [(2, .inl (px_wr (x2 + 1))), (3, .inl (s 122 (s 121 4).toNat)), (0, .inr (.inr 121)), (1, .inl (x1))]) (st1 := []) (h1 := (px_G1, q27)) rfl ?_
          refine px_D_ls [(0, .inr (.inr 121)), (1, .inl (x1)), (2, .inl (px_wr (x2 + 1)))] rfl rfl (List.forall_mem_cons.mpr ⟨rfl, List.forall_mem_cons.mpr ⟨rfl, List.forall_mem_cons.mpr ⟨rfl, fun _ h => absurd h List.not_mem_nil⟩⟩⟩) ?_
          exact ih _ _ _ _ h
def f_Reader_readSum (s : px_Z) : Option (px_Z) := (f_Reader_readUnit s ).bind (fun q1 => l_Reader_readSum_6  px_big q1 0 0)
set_option maxHeartbeats 4000000 in
set_option maxRecDepth 100000 in
theorem c_Reader_readSum {sc : List Int} {d : Nat} {s : px_Z} {out : px_Z} (h : f_Reader_readSum s  = some out) : px_D sc (d + 2) 54 0 [(0, .inr (.inr 121))] [] (px_G1, s) (px_Qv out) := by
  unfold f_Reader_readSum at h
  refine px_D_st 3 (ip1 := 3) (ls1 := [(1, .inl (0)), (0, .inr (.inr 121))]) (st1 := [.inr (.inr 121)]) (h1 := (px_G1, s)) rfl ?_
  refine px_D_call (as := [.inr (.inr 121)]) (rest := []) rfl rfl rfl rfl ?_
  obtain ⟨q1, hq1, h⟩ := Option.bind_eq_some_iff.mp h
  refine px_D_mono (c_Reader_readUnit (d := d + 0) hq1) ?_
  rintro _ _ ⟨rfl, rfl⟩
  show px_D sc (d + 2) 54 4 [(1, .inl (0)), (0, .inr (.inr 121))] [] (px_G1, q1) _
  refine px_D_st 2 (ip1 := 6) (ls1 := [(2, .inl (0)), (1, .inl (0)), (0, .inr (.inr 121))]) (st1 := []) (h1 := (px_G1, q1)) rfl ?_
  refine px_D_ls [(0, .inr (.inr 121)), (1, .inl (0)), (2, .inl (0))] rfl rfl (List.forall_mem_cons.mpr ⟨rfl, List.forall_mem_cons.mpr ⟨rfl, List.forall_mem_cons.mpr ⟨rfl, fun _ h => absurd h List.not_mem_nil⟩⟩⟩) ?_
  refine cl_Reader_readSum_6  px_big _ _ _ _ h

def l_Reader_readEither_7 (g : Nat → px_Z → Int → Option px_Z)  : Nat → px_Z → Int → Int → Int → Option (px_Z)
  | 0, _, _, _, _ => none
  | n + 1, s, x1, x2, x3 => if (400) ≤ (x3) then some s else (if (s 121 7) = (0) then (if 0 ≤ (s 121 4) ∧ (s 121 4) < 401 then if (s 122 (s 121 4).toNat) = (271) then (f_Reader_step s ).bind (fun q14 => (g 1 q14 x1).bind (fun q15 => (f_Law_put q15 (s 122 (s 121 4).toNat)).bind (fun q16 => l_Reader_readEither_7 g  n q16 x1 x2 (px_wr (x3 + 1))))) else (if (x2) = (0) then (if (s 122 (s 121 4).toNat) = (270) then (f_Reader_step s ).bind (fun q8 => (g 1 q8 x1).bind (fun q9 => l_Reader_readEither_7 g  n q9 x1 1 (px_wr (x3 + 1)))) else some s) else (f_Law_put s 270).bind (fun q10 => if (s 122 (s 121 4).toNat) = (270) then (f_Reader_step q10 ).bind (fun q12 => (g 1 q12 x1).bind (fun q13 => l_Reader_readEither_7 g  n q13 x1 1 (px_wr (x3 + 1)))) else some q10)) else none) else some s)
set_option maxHeartbeats 4000000 in
set_option maxRecDepth 100000 in
theorem cl_Reader_readEither_7 {sc : List Int} {d : Nat}  {g : Nat → px_Z → Int → Option px_Z} (hg0 : ∀ (s : px_Z) (x1 : Int) (out : px_Z), g 0 s x1 = some out → px_D sc (d + 7) 56 0 [(0, .inr (.inr 121)), (1, .inl (x1))] [] (px_G1, s) (px_Qv out)) (hg1 : ∀ (s : px_Z) (x1 : Int) (out : px_Z), g 1 s x1 = some out → px_D sc (d + 7) 57 0 [(0, .inr (.inr 121)), (1, .inl (x1))] [] (px_G1, s) (px_Qv out)) : ∀ (n : Nat) (s : px_Z) (x1 : Int) (x2 : Int) (x3 : Int) (out : px_Z), l_Reader_readEither_7 g  n s x1 x2 x3 = some out → px_D sc (d + 8) 56 7 [(0, .inr (.inr 121)), (1, .inl (x1)), (2, .inl (x2)), (3, .inl (x3))] [] (px_G1, s) (px_Qv out) := by
  intro n
  induction n with
  | zero => intro s x1 x2 x3 out h; cases h
  | succ n ih =>
    intro s x1 x2 x3 out h
    rw [l_Reader_readEither_7] at h
    refine px_D_st 2 (ip1 := 9) (ls1 := [(0, .inr (.inr 121)), (1, .inl (x1)), (2, .inl (x2)), (3, .inl (x3))]) (st1 := [.inl (400), .inl (x3)]) (h1 := (px_G1, s)) rfl ?_
    refine px_D_icmp rfl (fun hc => ?_) (fun hc => ?_)
    · have hc2 : (400) ≤ (x3) := of_decide_eq_true hc
      rw [if_pos hc2] at h
      cases h
      exact px_D_vret rfl ⟨rfl, rfl⟩
    · have hc2 : ¬ ((400) ≤ (x3)) := of_decide_eq_false hc
      rw [if_neg hc2] at h
      refine px_D_st 2 (ip1 := 12) (ls1 := [(0, .inr (.inr 121)), (1, .inl (x1)), (2, .inl (x2)), (3, .inl (x3))]) (st1 := [.inl (s 121 7)]) (h1 := (px_G1, s)) rfl ?_
      refine px_D_ifc rfl (fun hc => ?_) (fun hc => ?_)
      · have hc3 : ¬ ((s 121 7) = (0)) := of_decide_eq_true hc
        rw [if_neg hc3] at h
        cases h
        exact px_D_vret rfl ⟨rfl, rfl⟩
      · have hc3 : (s 121 7) = (0) := Decidable.of_not_not (of_decide_eq_false hc)
        rw [if_pos hc3] at h
        refine px_D_st 4 (ip1 := 17) (ls1 := [(0, .inr (.inr 121)), (1, .inl (x1)), (2, .inl (x2)), (3, .inl (x3))]) (st1 := [.inl (s 121 4), .inr (.inr 122)]) (h1 := (px_G1, s)) rfl ?_
        by_cases hc4 : 0 ≤ (s 121 4) ∧ (s 121 4) < 401
        case neg => rw [if_neg hc4] at h; cases h
        rw [if_pos hc4] at h
        refine px_D_iald (k := 117) (n := 401) rfl rfl hc4 ?_
        refine px_D_st 3 (ip1 := 21) (ls1 := [(4, .inl (s 122 (s 121 4).toNat)), (0, .inr (.inr 121)), (1, .inl (x1)), (2, .inl (x2)), (3, .inl (x3))]) (st1 := [.inl (271), .inl (s 122 (s 121 4).toNat)]) (h1 := (px_G1, s)) rfl ?_
        refine px_D_icmp rfl (fun hc => ?_) (fun hc => ?_)
        · have hc5 : ¬ ((s 122 (s 121 4).toNat) = (271)) := of_decide_eq_true hc
          rw [if_neg hc5] at h
          refine px_D_st 1 (ip1 := 33) (ls1 := [(4, .inl (s 122 (s 121 4).toNat)), (0, .inr (.inr 121)), (1, .inl (x1)), (2, .inl (x2)), (3, .inl (x3))]) (st1 := [.inl (x2)]) (h1 := (px_G1, s)) rfl ?_
          refine px_D_ifc rfl (fun hc => ?_) (fun hc => ?_)
          · have hc6 : (x2) = (0) := of_decide_eq_true hc
            rw [if_pos hc6] at h
            refine px_D_st 2 (ip1 := 40) (ls1 := [(4, .inl (s 122 (s 121 4).toNat)), (0, .inr (.inr 121)), (1, .inl (x1)), (2, .inl (x2)), (3, .inl (x3))]) (st1 := [.inl (270), .inl (s 122 (s 121 4).toNat)]) (h1 := (px_G1, s)) rfl ?_
            refine px_D_icmp rfl (fun hc => ?_) (fun hc => ?_)
            · have hc7 : (s 122 (s 121 4).toNat) = (270) := of_decide_eq_true hc
              rw [if_pos hc7] at h
              refine px_D_st 3 (ip1 := 45) (ls1 := [(2, .inl (1)), (4, .inl (s 122 (s 121 4).toNat)), (0, .inr (.inr 121)), (1, .inl (x1)), (3, .inl (x3))]) (st1 := [.inr (.inr 121)]) (h1 := (px_G1, s)) rfl ?_
              refine px_D_call (as := [.inr (.inr 121)]) (rest := []) rfl rfl rfl rfl ?_
              obtain ⟨q8, hq8, h⟩ := Option.bind_eq_some_iff.mp h
              refine px_D_mono (c_Reader_step (d := d + 7) hq8) ?_
              rintro _ _ ⟨rfl, rfl⟩
              show px_D sc (d + 8) 56 46 [(2, .inl (1)), (4, .inl (s 122 (s 121 4).toNat)), (0, .inr (.inr 121)), (1, .inl (x1)), (3, .inl (x3))] [] (px_G1, q8) _
              refine px_D_st 2 (ip1 := 48) (ls1 := [(2, .inl (1)), (4, .inl (s 122 (s 121 4).toNat)), (0, .inr (.inr 121)), (1, .inl (x1)), (3, .inl (x3))]) (st1 := [.inl (x1), .inr (.inr 121)]) (h1 := (px_G1, q8)) rfl ?_
              refine px_D_call (as := [.inr (.inr 121), .inl (x1)]) (rest := []) rfl rfl rfl rfl ?_
              obtain ⟨q9, hq9, h⟩ := Option.bind_eq_some_iff.mp h
              refine px_D_mono (hg1 _ _ _ hq9) ?_
              rintro _ _ ⟨rfl, rfl⟩
              show px_D sc (d + 8) 56 49 [(2, .inl (1)), (4, .inl (s 122 (s 121 4).toNat)), (0, .inr (.inr 121)), (1, .inl (x1)), (3, .inl (x3))] [] (px_G1, q9) _
              refine px_D_st 2 (ip1 := 7) (ls1 := [(3, .inl (px_wr (x3 + 1))), (2, .inl (1)), (4, .inl (s 122 (s 121 4).toNat)), (0, .inr (.inr 121)), (1, .inl (x1))]) (st1 := []) (h1 := (px_G1, q9)) rfl ?_
              refine px_D_ls [(0, .inr (.inr 121)), (1, .inl (x1)), (2, .inl (1)), (3, .inl (px_wr (x3 + 1)))] rfl rfl (List.forall_mem_cons.mpr ⟨rfl, List.forall_mem_cons.mpr ⟨rfl, List.forall_mem_cons.mpr ⟨rfl, List.forall_mem_cons.mpr ⟨rfl, fun _ h => absurd h List.not_mem_nil⟩⟩⟩⟩) ?_
              exact ih _ _ _ _ _ h
            · have hc7 : ¬ ((s 122 (s 121 4).toNat) = (270)) := of_decide_eq_false hc
              rw [if_neg hc7] at h
              cases h
              exact px_D_vret rfl ⟨rfl, rfl⟩
          · have hc6 : ¬ ((x2) = (0)) := of_decide_eq_false hc
            rw [if_neg hc6] at h
            refine px_D_st 3 (ip1 := 37) (ls1 := [(4, .inl (s 122 (s 121 4).toNat)), (0, .inr (.inr 121)), (1, .inl (x1)), (2, .inl (x2)), (3, .inl (x3))]) (st1 := [.inl (270), .inr (.inr 125)]) (h1 := (px_G1, s)) rfl ?_
            refine px_D_call (as := [.inr (.inr 125), .inl (270)]) (rest := []) rfl rfl rfl rfl ?_
            obtain ⟨q10, hq10, h⟩ := Option.bind_eq_some_iff.mp h
            refine px_D_mono (c_Law_put (d := d + 7) hq10) ?_
            rintro _ _ ⟨rfl, rfl⟩
            show px_D sc (d + 8) 56 38 [(4, .inl (s 122 (s 121 4).toNat)), (0, .inr (.inr 121)), (1, .inl (x1)), (2, .inl (x2)), (3, .inl (x3))] [] (px_G1, q10) _
            refine px_D_st 2 (ip1 := 40) (ls1 := [(4, .inl (s 122 (s 121 4).toNat)), (0, .inr (.inr 121)), (1, .inl (x1)), (2, .inl (x2)), (3, .inl (x3))]) (st1 := [.inl (270), .inl (s 122 (s 121 4).toNat)]) (h1 := (px_G1, q10)) rfl ?_
            refine px_D_icmp rfl (fun hc => ?_) (fun hc => ?_)
            · have hc11 : (s 122 (s 121 4).toNat) = (270) := of_decide_eq_true hc
              rw [if_pos hc11] at h
              refine px_D_st 3 (ip1 := 45) (ls1 := [(2, .inl (1)), (4, .inl (s 122 (s 121 4).toNat)), (0, .inr (.inr 121)), (1, .inl (x1)), (3, .inl (x3))]) (st1 := [.inr (.inr 121)]) (h1 := (px_G1, q10)) rfl ?_
              refine px_D_call (as := [.inr (.inr 121)]) (rest := []) rfl rfl rfl rfl ?_
              obtain ⟨q12, hq12, h⟩ := Option.bind_eq_some_iff.mp h
              refine px_D_mono (c_Reader_step (d := d + 7) hq12) ?_
              rintro _ _ ⟨rfl, rfl⟩
              show px_D sc (d + 8) 56 46 [(2, .inl (1)), (4, .inl (s 122 (s 121 4).toNat)), (0, .inr (.inr 121)), (1, .inl (x1)), (3, .inl (x3))] [] (px_G1, q12) _
              refine px_D_st 2 (ip1 := 48) (ls1 := [(2, .inl (1)), (4, .inl (s 122 (s 121 4).toNat)), (0, .inr (.inr 121)), (1, .inl (x1)), (3, .inl (x3))]) (st1 := [.inl (x1), .inr (.inr 121)]) (h1 := (px_G1, q12)) rfl ?_
              refine px_D_call (as := [.inr (.inr 121), .inl (x1)]) (rest := []) rfl rfl rfl rfl ?_
              obtain ⟨q13, hq13, h⟩ := Option.bind_eq_some_iff.mp h
              refine px_D_mono (hg1 _ _ _ hq13) ?_
              rintro _ _ ⟨rfl, rfl⟩
              show px_D sc (d + 8) 56 49 [(2, .inl (1)), (4, .inl (s 122 (s 121 4).toNat)), (0, .inr (.inr 121)), (1, .inl (x1)), (3, .inl (x3))] [] (px_G1, q13) _
              refine px_D_st 2 (ip1 := 7) (ls1 := [(3, .inl (px_wr (x3 + 1))), (2, .inl (1)), (4, .inl (s 122 (s 121 4).toNat)), (0, .inr (.inr 121)), (1, .inl (x1))]) (st1 := []) (h1 := (px_G1, q13)) rfl ?_
              refine px_D_ls [(0, .inr (.inr 121)), (1, .inl (x1)), (2, .inl (1)), (3, .inl (px_wr (x3 + 1)))] rfl rfl (List.forall_mem_cons.mpr ⟨rfl, List.forall_mem_cons.mpr ⟨rfl, List.forall_mem_cons.mpr ⟨rfl, List.forall_mem_cons.mpr ⟨rfl, fun _ h => absurd h List.not_mem_nil⟩⟩⟩⟩) ?_
              exact ih _ _ _ _ _ h
            · have hc11 : ¬ ((s 122 (s 121 4).toNat) = (270)) := of_decide_eq_false hc
              rw [if_neg hc11] at h
              cases h
              exact px_D_vret rfl ⟨rfl, rfl⟩
        · have hc5 : (s 122 (s 121 4).toNat) = (271) := Decidable.of_not_not (of_decide_eq_false hc)
          rw [if_pos hc5] at h
          refine px_D_st 1 (ip1 := 23) (ls1 := [(4, .inl (s 122 (s 121 4).toNat)), (0, .inr (.inr 121)), (1, .inl (x1)), (2, .inl (x2)), (3, .inl (x3))]) (st1 := [.inr (.inr 121)]) (h1 := (px_G1, s)) rfl ?_
          refine px_D_call (as := [.inr (.inr 121)]) (rest := []) rfl rfl rfl rfl ?_
          obtain ⟨q14, hq14, h⟩ := Option.bind_eq_some_iff.mp h
          refine px_D_mono (c_Reader_step (d := d + 7) hq14) ?_
          rintro _ _ ⟨rfl, rfl⟩
          show px_D sc (d + 8) 56 24 [(4, .inl (s 122 (s 121 4).toNat)), (0, .inr (.inr 121)), (1, .inl (x1)), (2, .inl (x2)), (3, .inl (x3))] [] (px_G1, q14) _
          refine px_D_st 2 (ip1 := 26) (ls1 := [(4, .inl (s 122 (s 121 4).toNat)), (0, .inr (.inr 121)), (1, .inl (x1)), (2, .inl (x2)), (3, .inl (x3))]) (st1 := [.inl (x1), .inr (.inr 121)]) (h1 := (px_G1, q14)) rfl ?_
          refine px_D_call (as := [.inr (.inr 121), .inl (x1)]) (rest := []) rfl rfl rfl rfl ?_
          obtain ⟨q15, hq15, h⟩ := Option.bind_eq_some_iff.mp h
          refine px_D_mono (hg1 _ _ _ hq15) ?_
          rintro _ _ ⟨rfl, rfl⟩
          show px_D sc (d + 8) 56 27 [(4, .inl (s 122 (s 121 4).toNat)), (0, .inr (.inr 121)), (1, .inl (x1)), (2, .inl (x2)), (3, .inl (x3))] [] (px_G1, q15) _
          refine px_D_st 3 (ip1 := 30) (ls1 := [(4, .inl (s 122 (s 121 4).toNat)), (0, .inr (.inr 121)), (1, .inl (x1)), (2, .inl (x2)), (3, .inl (x3))]) (st1 := [.inl (s 122 (s 121 4).toNat), .inr (.inr 125)]) (h1 := (px_G1, q15)) rfl ?_
          refine px_D_call (as := [.inr (.inr 125), .inl (s 122 (s 121 4).toNat)]) (rest := []) rfl rfl rfl rfl ?_
          obtain ⟨q16, hq16, h⟩ := Option.bind_eq_some_iff.mp h
          refine px_D_mono (c_Law_put (d := d + 7) hq16) ?_
          rintro _ _ ⟨rfl, rfl⟩
          show px_D sc (d + 8) 56 31 [(4, .inl (s 122 (s 121 4).toNat)), (0, .inr (.inr 121)), (1, .inl (x1)), (2, .inl (x2)), (3, .inl (x3))] [] (px_G1, q16) _
          refine px_D_st 3 (ip1 := 7) (ls1 := [(3, .inl (px_wr (x3 + 1))), (4, .inl (s 122 (s 121 4).toNat)), (0, .inr (.inr 121)), (1, .inl (x1)), (2, .inl (x2))]) (st1 := []) (h1 := (px_G1, q16)) rfl ?_
          refine px_D_ls [(0, .inr (.inr 121)), (1, .inl (x1)), (2, .inl (x2)), (3, .inl (px_wr (x3 + 1)))] rfl rfl (List.forall_mem_cons.mpr ⟨rfl, List.forall_mem_cons.mpr ⟨rfl, List.forall_mem_cons.mpr ⟨rfl, List.forall_mem_cons.mpr ⟨rfl, fun _ h => absurd h List.not_mem_nil⟩⟩⟩⟩) ?_
          exact ih _ _ _ _ _ h
def g_0 : Nat → Nat → px_Z → Int → Option px_Z
  | 0, _, _, _ => none
  | n + 1, 0, s, x1 => ((g_0 n) 1 s x1).bind (fun q1 => l_Reader_readEither_7 (g_0 n)  px_big q1 x1 0 0)
  | n + 1, _ + 1, s, x1 => if 0 ≤ (s 121 4) ∧ (s 121 4) < 401 then if (s 122 (s 121 4).toNat) = (272) then (if (1) = (0) then (if (s 122 (s 121 4).toNat) = (272) then (f_Reader_step s ).bind (fun q26 => ((g_0 n) 1 q26 (px_wr (x1 + 1))).bind (fun q27 => (f_Law_put q27 272).bind (fun q28 => some q28))) else (if (s 122 (s 121 4).toNat) = (40) then (f_Reader_step s ).bind (fun q23 => ((g_0 n) 0 q23 (px_wr (x1 + 1))).bind (fun q24 => (f_Reader_expect q24 41).bind (fun q25 => some q25))) else (f_Reader_readSum s ).bind (fun q6 => if 0 ≤ (q6 121 4) ∧ (q6 121 4) < 401 then if (q6 121 7) = (0) then (if (q6 122 (q6 121 4).toNat) = (60) then (f_Reader_step q6 ).bind (fun q11 => (f_Reader_readSum q11 ).bind (fun q12 => (f_Law_put q12 (q6 122 (q6 121 4).toNat)).bind (fun q13 => some q13))) else (if (q6 122 (q6 121 4).toNat) = (61) then (f_Reader_step q6 ).bind (fun q15 => (f_Reader_readSum q15 ).bind (fun q16 => (f_Law_put q16 (q6 122 (q6 121 4).toNat)).bind (fun q17 => some q17))) else (if (q6 122 (q6 121 4).toNat) = (62) then (f_Reader_step q6 ).bind (fun q20 => (f_Reader_readSum q20 ).bind (fun q21 => (f_Law_put q21 (q6 122 (q6 121 4).toNat)).bind (fun q22 => some q22))) else (f_Reader_fail q6 1).bind (fun q19 => some q19)))) else (f_Reader_fail q6 1).bind (fun q9 => some q9) else none))) else (if (x1) < (8) then (if (s 122 (s 121 4).toNat) = (272) then (f_Reader_step s ).bind (fun q52 => ((g_0 n) 1 q52 (px_wr (x1 + 1))).bind (fun q53 => (f_Law_put q53 272).bind (fun q54 => some q54))) else (if (s 122 (s 121 4).toNat) = (40) then (f_Reader_step s ).bind (fun q49 => ((g_0 n) 0 q49 (px_wr (x1 + 1))).bind (fun q50 => (f_Reader_expect q50 41).bind (fun q51 => some q51))) else (f_Reader_readSum s ).bind (fun q32 => if 0 ≤ (q32 121 4) ∧ (q32 121 4) < 401 then if (q32 121 7) = (0) then (if (q32 122 (q32 121 4).toNat) = (60) then (f_Reader_step q32 ).bind (fun q37 => (f_Reader_readSum q37 ).bind (fun q38 => (f_Law_put q38 (q32 122 (q32 121 4).toNat)).bind (fun q39 => some q39))) else (if (q32 122 (q32 121 4).toNat) = (61) then (f_Reader_step q32 ).bind (fun q41 => (f_Reader_readSum q41 ).bind (fun q42 => (f_Law_put q42 (q32 122 (q32 121 4).toNat)).bind (fun q43 => some q43))) else (if (q32 122 (q32 121 4).toNat) = (62) then (f_Reader_step q32 ).bind (fun q46 => (f_Reader_readSum q46 ).bind (fun q47 => (f_Law_put q47 (q32 122 (q32 121 4).toNat)).bind (fun q48 => some q48))) else (f_Reader_fail q32 1).bind (fun q45 => some q45)))) else (f_Reader_fail q32 1).bind (fun q35 => some q35) else none))) else (f_Reader_fail s 3).bind (fun q55 => some q55))) else (if (s 122 (s 121 4).toNat) = (40) then (if (1) = (0) then (if (s 122 (s 121 4).toNat) = (272) then (f_Reader_step s ).bind (fun q133 => ((g_0 n) 1 q133 (px_wr (x1 + 1))).bind (fun q134 => (f_Law_put q134 272).bind (fun q135 => some q135))) else (if (s 122 (s 121 4).toNat) = (40) then (f_Reader_step s ).bind (fun q130 => ((g_0 n) 0 q130 (px_wr (x1 + 1))).bind (fun q131 => (f_Reader_expect q131 41).bind (fun q132 => some q132))) else (f_Reader_readSum s ).bind (fun q113 => if 0 ≤ (q113 121 4) ∧ (q113 121 4) < 401 then if (q113 121 7) = (0) then (if (q113 122 (q113 121 4).toNat) = (60) then (f_Reader_step q113 ).bind (fun q118 => (f_Reader_readSum q118 ).bind (fun q119 => (f_Law_put q119 (q113 122 (q113 121 4).toNat)).bind (fun q120 => some q120))) else (if (q113 122 (q113 121 4).toNat) = (61) then (f_Reader_step q113 ).bind (fun q122 => (f_Reader_readSum q122 ).bind (fun q123 => (f_Law_put q123 (q113 122 (q113 121 4).toNat)).bind (fun q124 => some q124))) else (if (q113 122 (q113 121 4).toNat) = (62) then (f_Reader_step q113 ).bind (fun q127 => (f_Reader_readSum q127 ).bind (fun q128 => (f_Law_put q128 (q113 122 (q113 121 4).toNat)).bind (fun q129 => some q129))) else (f_Reader_fail q113 1).bind (fun q126 => some q126)))) else (f_Reader_fail q113 1).bind (fun q116 => some q116) else none))) else (if (x1) < (8) then (if (s 122 (s 121 4).toNat) = (272) then (f_Reader_step s ).bind (fun q159 => ((g_0 n) 1 q159 (px_wr (x1 + 1))).bind (fun q160 => (f_Law_put q160 272).bind (fun q161 => some q161))) else (if (s 122 (s 121 4).toNat) = (40) then (f_Reader_step s ).bind (fun q156 => ((g_0 n) 0 q156 (px_wr (x1 + 1))).bind (fun q157 => (f_Reader_expect q157 41).bind (fun q158 => some q158))) else (f_Reader_readSum s ).bind (fun q139 => if 0 ≤ (q139 121 4) ∧ (q139 121 4) < 401 then if (q139 121 7) = (0) then (if (q139 122 (q139 121 4).toNat) = (60) then (f_Reader_step q139 ).bind (fun q144 => (f_Reader_readSum q144 ).bind (fun q145 => (f_Law_put q145 (q139 122 (q139 121 4).toNat)).bind (fun q146 => some q146))) else (if (q139 122 (q139 121 4).toNat) = (61) then (f_Reader_step q139 ).bind (fun q148 => (f_Reader_readSum q148 ).bind (fun q149 => (f_Law_put q149 (q139 122 (q139 121 4).toNat)).bind (fun q150 => some q150))) else (if (q139 122 (q139 121 4).toNat) = (62) then (f_Reader_step q139 ).bind (fun q153 => (f_Reader_readSum q153 ).bind (fun q154 => (f_Law_put q154 (q139 122 (q139 121 4).toNat)).bind (fun q155 => some q155))) else (f_Reader_fail q139 1).bind (fun q152 => some q152)))) else (f_Reader_fail q139 1).bind (fun q142 => some q142) else none))) else (f_Reader_fail s 3).bind (fun q162 => some q162))) else (if (0) = (0) then (if (s 122 (s 121 4).toNat) = (272) then (f_Reader_step s ).bind (fun q80 => ((g_0 n) 1 q80 (px_wr (x1 + 1))).bind (fun q81 => (f_Law_put q81 272).bind (fun q82 => some q82))) else (if (s 122 (s 121 4).toNat) = (40) then (f_Reader_step s ).bind (fun q77 => ((g_0 n) 0 q77 (px_wr (x1 + 1))).bind (fun q78 => (f_Reader_expect q78 41).bind (fun q79 => some q79))) else (f_Reader_readSum s ).bind (fun q60 => if 0 ≤ (q60 121 4) ∧ (q60 121 4) < 401 then if (q60 121 7) = (0) then (if (q60 122 (q60 121 4).toNat) = (60) then (f_Reader_step q60 ).bind (fun q65 => (f_Reader_readSum q65 ).bind (fun q66 => (f_Law_put q66 (q60 122 (q60 121 4).toNat)).bind (fun q67 => some q67))) else (if (q60 122 (q60 121 4).toNat) = (61) then (f_Reader_step q60 ).bind (fun q69 => (f_Reader_readSum q69 ).bind (fun q70 => (f_Law_put q70 (q60 122 (q60 121 4).toNat)).bind (fun q71 => some q71))) else (if (q60 122 (q60 121 4).toNat) = (62) then (f_Reader_step q60 ).bind (fun q74 => (f_Reader_readSum q74 ).bind (fun q75 => (f_Law_put q75 (q60 122 (q60 121 4).toNat)).bind (fun q76 => some q76))) else (f_Reader_fail q60 1).bind (fun q73 => some q73)))) else (f_Reader_fail q60 1).bind (fun q63 => some q63) else none))) else (if (x1) < (8) then (if (s 122 (s 121 4).toNat) = (272) then (f_Reader_step s ).bind (fun q106 => ((g_0 n) 1 q106 (px_wr (x1 + 1))).bind (fun q107 => (f_Law_put q107 272).bind (fun q108 => some q108))) else (if (s 122 (s 121 4).toNat) = (40) then (f_Reader_step s ).bind (fun q103 => ((g_0 n) 0 q103 (px_wr (x1 + 1))).bind (fun q104 => (f_Reader_expect q104 41).bind (fun q105 => some q105))) else (f_Reader_readSum s ).bind (fun q86 => if 0 ≤ (q86 121 4) ∧ (q86 121 4) < 401 then if (q86 121 7) = (0) then (if (q86 122 (q86 121 4).toNat) = (60) then (f_Reader_step q86 ).bind (fun q91 => (f_Reader_readSum q91 ).bind (fun q92 => (f_Law_put q92 (q86 122 (q86 121 4).toNat)).bind (fun q93 => some q93))) else (if (q86 122 (q86 121 4).toNat) = (61) then (f_Reader_step q86 ).bind (fun q95 => (f_Reader_readSum q95 ).bind (fun q96 => (f_Law_put q96 (q86 122 (q86 121 4).toNat)).bind (fun q97 => some q97))) else (if (q86 122 (q86 121 4).toNat) = (62) then (f_Reader_step q86 ).bind (fun q100 => (f_Reader_readSum q100 ).bind (fun q101 => (f_Law_put q101 (q86 122 (q86 121 4).toNat)).bind (fun q102 => some q102))) else (f_Reader_fail q86 1).bind (fun q99 => some q99)))) else (f_Reader_fail q86 1).bind (fun q89 => some q89) else none))) else (f_Reader_fail s 3).bind (fun q109 => some q109)))) else none
set_option maxHeartbeats 4000000 in
set_option maxRecDepth 100000 in
theorem cg_0 {sc : List Int} : ∀ (n : Nat) (d tag : Nat) (s : px_Z) (x1 : Int) (out : px_Z), g_0 n tag s x1 = some out → px_D sc (d + 8 * n) (if tag = 0 then 56 else 57) 0 [(0, .inr (.inr 121)), (1, .inl (x1))] [] (px_G1, s) (px_Qv out) := by
  intro n
  induction n with
  | zero => intro d tag s x1 out h; cases h
  | succ n ih =>
    intro d tag s x1 out h
    have hg0 : ∀ (s : px_Z) (x1 : Int) (out : px_Z), g_0 n 0 s x1 = some out → px_D sc (d + 8 * n + 7) 56 0 [(0, .inr (.inr 121)), (1, .inl (x1))] [] (px_G1, s) (px_Qv out) := fun s x1 out h => by
      have h2 := ih (d + 7) 0 s x1 out h
      rw [show d + 7 + 8 * n = d + 8 * n + 7 by omega] at h2
      exact h2
    have hg1 : ∀ (s : px_Z) (x1 : Int) (out : px_Z), g_0 n 1 s x1 = some out → px_D sc (d + 8 * n + 7) 57 0 [(0, .inr (.inr 121)), (1, .inl (x1))] [] (px_G1, s) (px_Qv out) := fun s x1 out h => by
      have h2 := ih (d + 7) 1 s x1 out h
      rw [show d + 7 + 8 * n = d + 8 * n + 7 by omega] at h2
      exact h2
    rw [show d + 8 * (n + 1) = d + 8 * n + 8 by omega]
    generalize d + 8 * n = d at hg0 hg1 ⊢
    match tag, h with
    | 0, h =>
      rw [g_0] at h
      show px_D sc (d + 8) 56 0 [(0, .inr (.inr 121)), (1, .inl (x1))] [] (px_G1, s) (px_Qv out)
      refine px_D_st 4 (ip1 := 4) (ls1 := [(2, .inl (0)), (0, .inr (.inr 121)), (1, .inl (x1))]) (st1 := [.inl (x1), .inr (.inr 121)]) (h1 := (px_G1, s)) rfl ?_
      refine px_D_call (as := [.inr (.inr 121), .inl (x1)]) (rest := []) rfl rfl rfl rfl ?_
      obtain ⟨q1, hq1, h⟩ := Option.bind_eq_some_iff.mp h
      refine px_D_mono (hg1 _ _ _ hq1) ?_
      rintro _ _ ⟨rfl, rfl⟩
      show px_D sc (d + 8) 56 5 [(2, .inl (0)), (0, .inr (.inr 121)), (1, .inl (x1))] [] (px_G1, q1) _
      refine px_D_st 2 (ip1 := 7) (ls1 := [(3, .inl (0)), (2, .inl (0)), (0, .inr (.inr 121)), (1, .inl (x1))]) (st1 := []) (h1 := (px_G1, q1)) rfl ?_
      refine px_D_ls [(0, .inr (.inr 121)), (1, .inl (x1)), (2, .inl (0)), (3, .inl (0))] rfl rfl (List.forall_mem_cons.mpr ⟨rfl, List.forall_mem_cons.mpr ⟨rfl, List.forall_mem_cons.mpr ⟨rfl, List.forall_mem_cons.mpr ⟨rfl, fun _ h => absurd h List.not_mem_nil⟩⟩⟩⟩) ?_
      refine cl_Reader_readEither_7 hg0 hg1  px_big _ _ _ _ _ h
    | k + 1, h =>
      rw [g_0] at h
      show px_D sc (d + 8) 57 0 [(0, .inr (.inr 121)), (1, .inl (x1))] [] (px_G1, s) (px_Qv out)
      refine px_D_st 4 (ip1 := 4) (ls1 := [(0, .inr (.inr 121)), (1, .inl (x1))]) (st1 := [.inl (s 121 4), .inr (.inr 122)]) (h1 := (px_G1, s)) rfl ?_
      by_cases hc1 : 0 ≤ (s 121 4) ∧ (s 121 4) < 401
      case neg => rw [if_neg hc1] at h; cases h
      rw [if_pos hc1] at h
      refine px_D_iald (k := 117) (n := 401) rfl rfl hc1 ?_
      refine px_D_st 3 (ip1 := 8) (ls1 := [(2, .inl (s 122 (s 121 4).toNat)), (0, .inr (.inr 121)), (1, .inl (x1))]) (st1 := [.inl (272), .inl (s 122 (s 121 4).toNat)]) (h1 := (px_G1, s)) rfl ?_
      refine px_D_icmp rfl (fun hc => ?_) (fun hc => ?_)
      · have hc2 : (s 122 (s 121 4).toNat) = (272) := of_decide_eq_true hc
        rw [if_pos hc2] at h
        refine px_D_st 4 (ip1 := 17) (ls1 := [(3, .inl (1)), (2, .inl (s 122 (s 121 4).toNat)), (0, .inr (.inr 121)), (1, .inl (x1))]) (st1 := [.inl (1)]) (h1 := (px_G1, s)) rfl ?_
        refine px_D_ifc rfl (fun hc => ?_) (fun hc => ?_)
        · have hc3 : (1) = (0) := of_decide_eq_true hc
          rw [if_pos hc3] at h
          refine px_D_st 2 (ip1 := 27) (ls1 := [(3, .inl (1)), (2, .inl (s 122 (s 121 4).toNat)), (0, .inr (.inr 121)), (1, .inl (x1))]) (st1 := [.inl (272), .inl (s 122 (s 121 4).toNat)]) (h1 := (px_G1, s)) rfl ?_
          refine px_D_icmp rfl (fun hc => ?_) (fun hc => ?_)
          · have hc4 : ¬ ((s 122 (s 121 4).toNat) = (272)) := of_decide_eq_true hc
            rw [if_neg hc4] at h
            refine px_D_st 2 (ip1 := 42) (ls1 := [(3, .inl (1)), (2, .inl (s 122 (s 121 4).toNat)), (0, .inr (.inr 121)), (1, .inl (x1))]) (st1 := [.inl (40), .inl (s 122 (s 121 4).toNat)]) (h1 := (px_G1, s)) rfl ?_
            refine px_D_icmp rfl (fun hc => ?_) (fun hc => ?_)
            · have hc5 : ¬ ((s 122 (s 121 4).toNat) = (40)) := of_decide_eq_true hc
              rw [if_neg hc5] at h
              refine px_D_st 1 (ip1 := 55) (ls1 := [(3, .inl (1)), (2, .inl (s 122 (s 121 4).toNat)), (0, .inr (.inr 121)), (1, .inl (x1))]) (st1 := [.inr (.inr 121)]) (h1 := (px_G1, s)) rfl ?_
              refine px_D_call (as := [.inr (.inr 121)]) (rest := []) rfl rfl rfl rfl ?_
              obtain ⟨q6, hq6, h⟩ := Option.bind_eq_some_iff.mp h
              refine px_D_mono (c_Reader_readSum (d := d + 5) hq6) ?_
              rintro _ _ ⟨rfl, rfl⟩
              show px_D sc (d + 8) 57 56 [(3, .inl (1)), (2, .inl (s 122 (s 121 4).toNat)), (0, .inr (.inr 121)), (1, .inl (x1))] [] (px_G1, q6) _
              refine px_D_st 4 (ip1 := 60) (ls1 := [(3, .inl (1)), (2, .inl (s 122 (s 121 4).toNat)), (0, .inr (.inr 121)), (1, .inl (x1))]) (st1 := [.inl (q6 121 4), .inr (.inr 122)]) (h1 := (px_G1, q6)) rfl ?_
              by_cases hc7 : 0 ≤ (q6 121 4) ∧ (q6 121 4) < 401
              case neg => rw [if_neg hc7] at h; cases h
              rw [if_pos hc7] at h
              refine px_D_iald (k := 117) (n := 401) rfl rfl hc7 ?_
              refine px_D_st 3 (ip1 := 64) (ls1 := [(4, .inl (q6 122 (q6 121 4).toNat)), (3, .inl (1)), (2, .inl (s 122 (s 121 4).toNat)), (0, .inr (.inr 121)), (1, .inl (x1))]) (st1 := [.inl (q6 121 7)]) (h1 := (px_G1, q6)) rfl ?_
              refine px_D_ifc rfl (fun hc => ?_) (fun hc => ?_)
              · have hc8 : ¬ ((q6 121 7) = (0)) := of_decide_eq_true hc
                rw [if_neg hc8] at h
                refine px_D_st 2 (ip1 := 85) (ls1 := [(4, .inl (q6 122 (q6 121 4).toNat)), (3, .inl (1)), (2, .inl (s 122 (s 121 4).toNat)), (0, .inr (.inr 121)), (1, .inl (x1))]) (st1 := [.inl (1), .inr (.inr 121)]) (h1 := (px_G1, q6)) rfl ?_
                refine px_D_call (as := [.inr (.inr 121), .inl (1)]) (rest := []) rfl rfl rfl rfl ?_
                obtain ⟨q9, hq9, h⟩ := Option.bind_eq_some_iff.mp h
                refine px_D_mono (c_Reader_fail (d := d + 7) hq9) ?_
                rintro _ _ ⟨rfl, rfl⟩
                show px_D sc (d + 8) 57 86 [(4, .inl (q6 122 (q6 121 4).toNat)), (3, .inl (1)), (2, .inl (s 122 (s 121 4).toNat)), (0, .inr (.inr 121)), (1, .inl (x1))] [] (px_G1, q9) _
                cases h
                exact px_D_vret rfl ⟨rfl, rfl⟩
              · have hc8 : (q6 121 7) = (0) := Decidable.of_not_not (of_decide_eq_false hc)
                rw [if_pos hc8] at h
                refine px_D_st 2 (ip1 := 67) (ls1 := [(4, .inl (q6 122 (q6 121 4).toNat)), (3, .inl (1)), (2, .inl (s 122 (s 121 4).toNat)), (0, .inr (.inr 121)), (1, .inl (x1))]) (st1 := [.inl (60), .inl (q6 122 (q6 121 4).toNat)]) (h1 := (px_G1, q6)) rfl ?_
                refine px_D_icmp rfl (fun hc => ?_) (fun hc => ?_)
                · have hc10 : (q6 122 (q6 121 4).toNat) = (60) := of_decide_eq_true hc
                  rw [if_pos hc10] at h
                  refine px_D_st 1 (ip1 := 75) (ls1 := [(4, .inl (q6 122 (q6 121 4).toNat)), (3, .inl (1)), (2, .inl (s 122 (s 121 4).toNat)), (0, .inr (.inr 121)), (1, .inl (x1))]) (st1 := [.inr (.inr 121)]) (h1 := (px_G1, q6)) rfl ?_
                  refine px_D_call (as := [.inr (.inr 121)]) (rest := []) rfl rfl rfl rfl ?_
                  obtain ⟨q11, hq11, h⟩ := Option.bind_eq_some_iff.mp h
                  refine px_D_mono (c_Reader_step (d := d + 7) hq11) ?_
                  rintro _ _ ⟨rfl, rfl⟩
                  show px_D sc (d + 8) 57 76 [(4, .inl (q6 122 (q6 121 4).toNat)), (3, .inl (1)), (2, .inl (s 122 (s 121 4).toNat)), (0, .inr (.inr 121)), (1, .inl (x1))] [] (px_G1, q11) _
                  refine px_D_st 1 (ip1 := 77) (ls1 := [(4, .inl (q6 122 (q6 121 4).toNat)), (3, .inl (1)), (2, .inl (s 122 (s 121 4).toNat)), (0, .inr (.inr 121)), (1, .inl (x1))]) (st1 := [.inr (.inr 121)]) (h1 := (px_G1, q11)) rfl ?_
                  refine px_D_call (as := [.inr (.inr 121)]) (rest := []) rfl rfl rfl rfl ?_
                  obtain ⟨q12, hq12, h⟩ := Option.bind_eq_some_iff.mp h
                  refine px_D_mono (c_Reader_readSum (d := d + 5) hq12) ?_
                  rintro _ _ ⟨rfl, rfl⟩
                  show px_D sc (d + 8) 57 78 [(4, .inl (q6 122 (q6 121 4).toNat)), (3, .inl (1)), (2, .inl (s 122 (s 121 4).toNat)), (0, .inr (.inr 121)), (1, .inl (x1))] [] (px_G1, q12) _
                  refine px_D_st 3 (ip1 := 81) (ls1 := [(4, .inl (q6 122 (q6 121 4).toNat)), (3, .inl (1)), (2, .inl (s 122 (s 121 4).toNat)), (0, .inr (.inr 121)), (1, .inl (x1))]) (st1 := [.inl (q6 122 (q6 121 4).toNat), .inr (.inr 125)]) (h1 := (px_G1, q12)) rfl ?_
                  refine px_D_call (as := [.inr (.inr 125), .inl (q6 122 (q6 121 4).toNat)]) (rest := []) rfl rfl rfl rfl ?_
                  obtain ⟨q13, hq13, h⟩ := Option.bind_eq_some_iff.mp h
                  refine px_D_mono (c_Law_put (d := d + 7) hq13) ?_
                  rintro _ _ ⟨rfl, rfl⟩
                  show px_D sc (d + 8) 57 82 [(4, .inl (q6 122 (q6 121 4).toNat)), (3, .inl (1)), (2, .inl (s 122 (s 121 4).toNat)), (0, .inr (.inr 121)), (1, .inl (x1))] [] (px_G1, q13) _
                  refine px_D_st 1 (ip1 := 86) (ls1 := [(4, .inl (q6 122 (q6 121 4).toNat)), (3, .inl (1)), (2, .inl (s 122 (s 121 4).toNat)), (0, .inr (.inr 121)), (1, .inl (x1))]) (st1 := []) (h1 := (px_G1, q13)) rfl ?_
                  cases h
                  exact px_D_vret rfl ⟨rfl, rfl⟩
                · have hc10 : ¬ ((q6 122 (q6 121 4).toNat) = (60)) := of_decide_eq_false hc
                  rw [if_neg hc10] at h
                  refine px_D_st 2 (ip1 := 70) (ls1 := [(4, .inl (q6 122 (q6 121 4).toNat)), (3, .inl (1)), (2, .inl (s 122 (s 121 4).toNat)), (0, .inr (.inr 121)), (1, .inl (x1))]) (st1 := [.inl (61), .inl (q6 122 (q6 121 4).toNat)]) (h1 := (px_G1, q6)) rfl ?_
                  refine px_D_icmp rfl (fun hc => ?_) (fun hc => ?_)
                  · have hc14 : (q6 122 (q6 121 4).toNat) = (61) := of_decide_eq_true hc
                    rw [if_pos hc14] at h
                    refine px_D_st 1 (ip1 := 75) (ls1 := [(4, .inl (q6 122 (q6 121 4).toNat)), (3, .inl (1)), (2, .inl (s 122 (s 121 4).toNat)), (0, .inr (.inr 121)), (1, .inl (x1))]) (st1 := [.inr (.inr 121)]) (h1 := (px_G1, q6)) rfl ?_
                    refine px_D_call (as := [.inr (.inr 121)]) (rest := []) rfl rfl rfl rfl ?_
                    obtain ⟨q15, hq15, h⟩ := Option.bind_eq_some_iff.mp h
                    refine px_D_mono (c_Reader_step (d := d + 7) hq15) ?_
                    rintro _ _ ⟨rfl, rfl⟩
                    show px_D sc (d + 8) 57 76 [(4, .inl (q6 122 (q6 121 4).toNat)), (3, .inl (1)), (2, .inl (s 122 (s 121 4).toNat)), (0, .inr (.inr 121)), (1, .inl (x1))] [] (px_G1, q15) _
                    refine px_D_st 1 (ip1 := 77) (ls1 := [(4, .inl (q6 122 (q6 121 4).toNat)), (3, .inl (1)), (2, .inl (s 122 (s 121 4).toNat)), (0, .inr (.inr 121)), (1, .inl (x1))]) (st1 := [.inr (.inr 121)]) (h1 := (px_G1, q15)) rfl ?_
                    refine px_D_call (as := [.inr (.inr 121)]) (rest := []) rfl rfl rfl rfl ?_
                    obtain ⟨q16, hq16, h⟩ := Option.bind_eq_some_iff.mp h
                    refine px_D_mono (c_Reader_readSum (d := d + 5) hq16) ?_
                    rintro _ _ ⟨rfl, rfl⟩
                    show px_D sc (d + 8) 57 78 [(4, .inl (q6 122 (q6 121 4).toNat)), (3, .inl (1)), (2, .inl (s 122 (s 121 4).toNat)), (0, .inr (.inr 121)), (1, .inl (x1))] [] (px_G1, q16) _
                    refine px_D_st 3 (ip1 := 81) (ls1 := [(4, .inl (q6 122 (q6 121 4).toNat)), (3, .inl (1)), (2, .inl (s 122 (s 121 4).toNat)), (0, .inr (.inr 121)), (1, .inl (x1))]) (st1 := [.inl (q6 122 (q6 121 4).toNat), .inr (.inr 125)]) (h1 := (px_G1, q16)) rfl ?_
                    refine px_D_call (as := [.inr (.inr 125), .inl (q6 122 (q6 121 4).toNat)]) (rest := []) rfl rfl rfl rfl ?_
                    obtain ⟨q17, hq17, h⟩ := Option.bind_eq_some_iff.mp h
                    refine px_D_mono (c_Law_put (d := d + 7) hq17) ?_
                    rintro _ _ ⟨rfl, rfl⟩
                    show px_D sc (d + 8) 57 82 [(4, .inl (q6 122 (q6 121 4).toNat)), (3, .inl (1)), (2, .inl (s 122 (s 121 4).toNat)), (0, .inr (.inr 121)), (1, .inl (x1))] [] (px_G1, q17) _
                    refine px_D_st 1 (ip1 := 86) (ls1 := [(4, .inl (q6 122 (q6 121 4).toNat)), (3, .inl (1)), (2, .inl (s 122 (s 121 4).toNat)), (0, .inr (.inr 121)), (1, .inl (x1))]) (st1 := []) (h1 := (px_G1, q17)) rfl ?_
                    cases h
                    exact px_D_vret rfl ⟨rfl, rfl⟩
                  · have hc14 : ¬ ((q6 122 (q6 121 4).toNat) = (61)) := of_decide_eq_false hc
                    rw [if_neg hc14] at h
                    refine px_D_st 2 (ip1 := 73) (ls1 := [(4, .inl (q6 122 (q6 121 4).toNat)), (3, .inl (1)), (2, .inl (s 122 (s 121 4).toNat)), (0, .inr (.inr 121)), (1, .inl (x1))]) (st1 := [.inl (62), .inl (q6 122 (q6 121 4).toNat)]) (h1 := (px_G1, q6)) rfl ?_
                    refine px_D_icmp rfl (fun hc => ?_) (fun hc => ?_)
                    · have hc18 : ¬ ((q6 122 (q6 121 4).toNat) = (62)) := of_decide_eq_true hc
                      rw [if_neg hc18] at h
                      refine px_D_st 2 (ip1 := 85) (ls1 := [(4, .inl (q6 122 (q6 121 4).toNat)), (3, .inl (1)), (2, .inl (s 122 (s 121 4).toNat)), (0, .inr (.inr 121)), (1, .inl (x1))]) (st1 := [.inl (1), .inr (.inr 121)]) (h1 := (px_G1, q6)) rfl ?_
                      refine px_D_call (as := [.inr (.inr 121), .inl (1)]) (rest := []) rfl rfl rfl rfl ?_
                      obtain ⟨q19, hq19, h⟩ := Option.bind_eq_some_iff.mp h
                      refine px_D_mono (c_Reader_fail (d := d + 7) hq19) ?_
                      rintro _ _ ⟨rfl, rfl⟩
                      show px_D sc (d + 8) 57 86 [(4, .inl (q6 122 (q6 121 4).toNat)), (3, .inl (1)), (2, .inl (s 122 (s 121 4).toNat)), (0, .inr (.inr 121)), (1, .inl (x1))] [] (px_G1, q19) _
                      cases h
                      exact px_D_vret rfl ⟨rfl, rfl⟩
                    · have hc18 : (q6 122 (q6 121 4).toNat) = (62) := Decidable.of_not_not (of_decide_eq_false hc)
                      rw [if_pos hc18] at h
                      refine px_D_st 1 (ip1 := 75) (ls1 := [(4, .inl (q6 122 (q6 121 4).toNat)), (3, .inl (1)), (2, .inl (s 122 (s 121 4).toNat)), (0, .inr (.inr 121)), (1, .inl (x1))]) (st1 := [.inr (.inr 121)]) (h1 := (px_G1, q6)) rfl ?_
                      refine px_D_call (as := [.inr (.inr 121)]) (rest := []) rfl rfl rfl rfl ?_
                      obtain ⟨q20, hq20, h⟩ := Option.bind_eq_some_iff.mp h
                      refine px_D_mono (c_Reader_step (d := d + 7) hq20) ?_
                      rintro _ _ ⟨rfl, rfl⟩
                      show px_D sc (d + 8) 57 76 [(4, .inl (q6 122 (q6 121 4).toNat)), (3, .inl (1)), (2, .inl (s 122 (s 121 4).toNat)), (0, .inr (.inr 121)), (1, .inl (x1))] [] (px_G1, q20) _
                      refine px_D_st 1 (ip1 := 77) (ls1 := [(4, .inl (q6 122 (q6 121 4).toNat)), (3, .inl (1)), (2, .inl (s 122 (s 121 4).toNat)), (0, .inr (.inr 121)), (1, .inl (x1))]) (st1 := [.inr (.inr 121)]) (h1 := (px_G1, q20)) rfl ?_
                      refine px_D_call (as := [.inr (.inr 121)]) (rest := []) rfl rfl rfl rfl ?_
                      obtain ⟨q21, hq21, h⟩ := Option.bind_eq_some_iff.mp h
                      refine px_D_mono (c_Reader_readSum (d := d + 5) hq21) ?_
                      rintro _ _ ⟨rfl, rfl⟩
                      show px_D sc (d + 8) 57 78 [(4, .inl (q6 122 (q6 121 4).toNat)), (3, .inl (1)), (2, .inl (s 122 (s 121 4).toNat)), (0, .inr (.inr 121)), (1, .inl (x1))] [] (px_G1, q21) _
                      refine px_D_st 3 (ip1 := 81) (ls1 := [(4, .inl (q6 122 (q6 121 4).toNat)), (3, .inl (1)), (2, .inl (s 122 (s 121 4).toNat)), (0, .inr (.inr 121)), (1, .inl (x1))]) (st1 := [.inl (q6 122 (q6 121 4).toNat), .inr (.inr 125)]) (h1 := (px_G1, q21)) rfl ?_
                      refine px_D_call (as := [.inr (.inr 125), .inl (q6 122 (q6 121 4).toNat)]) (rest := []) rfl rfl rfl rfl ?_
                      obtain ⟨q22, hq22, h⟩ := Option.bind_eq_some_iff.mp h
                      refine px_D_mono (c_Law_put (d := d + 7) hq22) ?_
                      rintro _ _ ⟨rfl, rfl⟩
                      show px_D sc (d + 8) 57 82 [(4, .inl (q6 122 (q6 121 4).toNat)), (3, .inl (1)), (2, .inl (s 122 (s 121 4).toNat)), (0, .inr (.inr 121)), (1, .inl (x1))] [] (px_G1, q22) _
                      refine px_D_st 1 (ip1 := 86) (ls1 := [(4, .inl (q6 122 (q6 121 4).toNat)), (3, .inl (1)), (2, .inl (s 122 (s 121 4).toNat)), (0, .inr (.inr 121)), (1, .inl (x1))]) (st1 := []) (h1 := (px_G1, q22)) rfl ?_
                      cases h
                      exact px_D_vret rfl ⟨rfl, rfl⟩
            · have hc5 : (s 122 (s 121 4).toNat) = (40) := Decidable.of_not_not (of_decide_eq_false hc)
              rw [if_pos hc5] at h
              refine px_D_st 1 (ip1 := 44) (ls1 := [(3, .inl (1)), (2, .inl (s 122 (s 121 4).toNat)), (0, .inr (.inr 121)), (1, .inl (x1))]) (st1 := [.inr (.inr 121)]) (h1 := (px_G1, s)) rfl ?_
              refine px_D_call (as := [.inr (.inr 121)]) (rest := []) rfl rfl rfl rfl ?_
              obtain ⟨q23, hq23, h⟩ := Option.bind_eq_some_iff.mp h
              refine px_D_mono (c_Reader_step (d := d + 7) hq23) ?_
              rintro _ _ ⟨rfl, rfl⟩
              show px_D sc (d + 8) 57 45 [(3, .inl (1)), (2, .inl (s 122 (s 121 4).toNat)), (0, .inr (.inr 121)), (1, .inl (x1))] [] (px_G1, q23) _
              refine px_D_st 4 (ip1 := 49) (ls1 := [(3, .inl (1)), (2, .inl (s 122 (s 121 4).toNat)), (0, .inr (.inr 121)), (1, .inl (x1))]) (st1 := [.inl (px_wr (x1 + 1)), .inr (.inr 121)]) (h1 := (px_G1, q23)) rfl ?_
              refine px_D_call (as := [.inr (.inr 121), .inl (px_wr (x1 + 1))]) (rest := []) rfl rfl rfl rfl ?_
              obtain ⟨q24, hq24, h⟩ := Option.bind_eq_some_iff.mp h
              refine px_D_mono (hg0 _ _ _ hq24) ?_
              rintro _ _ ⟨rfl, rfl⟩
              show px_D sc (d + 8) 57 50 [(3, .inl (1)), (2, .inl (s 122 (s 121 4).toNat)), (0, .inr (.inr 121)), (1, .inl (x1))] [] (px_G1, q24) _
              refine px_D_st 2 (ip1 := 52) (ls1 := [(3, .inl (1)), (2, .inl (s 122 (s 121 4).toNat)), (0, .inr (.inr 121)), (1, .inl (x1))]) (st1 := [.inl (41), .inr (.inr 121)]) (h1 := (px_G1, q24)) rfl ?_
              refine px_D_call (as := [.inr (.inr 121), .inl (41)]) (rest := []) rfl rfl rfl rfl ?_
              obtain ⟨q25, hq25, h⟩ := Option.bind_eq_some_iff.mp h
              refine px_D_mono (c_Reader_expect (d := d + 6) hq25) ?_
              rintro _ _ ⟨rfl, rfl⟩
              show px_D sc (d + 8) 57 53 [(3, .inl (1)), (2, .inl (s 122 (s 121 4).toNat)), (0, .inr (.inr 121)), (1, .inl (x1))] [] (px_G1, q25) _
              refine px_D_st 1 (ip1 := 86) (ls1 := [(3, .inl (1)), (2, .inl (s 122 (s 121 4).toNat)), (0, .inr (.inr 121)), (1, .inl (x1))]) (st1 := []) (h1 := (px_G1, q25)) rfl ?_
              cases h
              exact px_D_vret rfl ⟨rfl, rfl⟩
          · have hc4 : (s 122 (s 121 4).toNat) = (272) := Decidable.of_not_not (of_decide_eq_false hc)
            rw [if_pos hc4] at h
            refine px_D_st 1 (ip1 := 29) (ls1 := [(3, .inl (1)), (2, .inl (s 122 (s 121 4).toNat)), (0, .inr (.inr 121)), (1, .inl (x1))]) (st1 := [.inr (.inr 121)]) (h1 := (px_G1, s)) rfl ?_
            refine px_D_call (as := [.inr (.inr 121)]) (rest := []) rfl rfl rfl rfl ?_
            obtain ⟨q26, hq26, h⟩ := Option.bind_eq_some_iff.mp h
            refine px_D_mono (c_Reader_step (d := d + 7) hq26) ?_
            rintro _ _ ⟨rfl, rfl⟩
            show px_D sc (d + 8) 57 30 [(3, .inl (1)), (2, .inl (s 122 (s 121 4).toNat)), (0, .inr (.inr 121)), (1, .inl (x1))] [] (px_G1, q26) _
            refine px_D_st 4 (ip1 := 34) (ls1 := [(3, .inl (1)), (2, .inl (s 122 (s 121 4).toNat)), (0, .inr (.inr 121)), (1, .inl (x1))]) (st1 := [.inl (px_wr (x1 + 1)), .inr (.inr 121)]) (h1 := (px_G1, q26)) rfl ?_
            refine px_D_call (as := [.inr (.inr 121), .inl (px_wr (x1 + 1))]) (rest := []) rfl rfl rfl rfl ?_
            obtain ⟨q27, hq27, h⟩ := Option.bind_eq_some_iff.mp h
            refine px_D_mono (hg1 _ _ _ hq27) ?_
            rintro _ _ ⟨rfl, rfl⟩
            show px_D sc (d + 8) 57 35 [(3, .inl (1)), (2, .inl (s 122 (s 121 4).toNat)), (0, .inr (.inr 121)), (1, .inl (x1))] [] (px_G1, q27) _
            refine px_D_st 3 (ip1 := 38) (ls1 := [(3, .inl (1)), (2, .inl (s 122 (s 121 4).toNat)), (0, .inr (.inr 121)), (1, .inl (x1))]) (st1 := [.inl (272), .inr (.inr 125)]) (h1 := (px_G1, q27)) rfl ?_
            refine px_D_call (as := [.inr (.inr 125), .inl (272)]) (rest := []) rfl rfl rfl rfl ?_
            obtain ⟨q28, hq28, h⟩ := Option.bind_eq_some_iff.mp h
            refine px_D_mono (c_Law_put (d := d + 7) hq28) ?_
            rintro _ _ ⟨rfl, rfl⟩
            show px_D sc (d + 8) 57 39 [(3, .inl (1)), (2, .inl (s 122 (s 121 4).toNat)), (0, .inr (.inr 121)), (1, .inl (x1))] [] (px_G1, q28) _
            refine px_D_st 1 (ip1 := 86) (ls1 := [(3, .inl (1)), (2, .inl (s 122 (s 121 4).toNat)), (0, .inr (.inr 121)), (1, .inl (x1))]) (st1 := []) (h1 := (px_G1, q28)) rfl ?_
            cases h
            exact px_D_vret rfl ⟨rfl, rfl⟩
        · have hc3 : ¬ ((1) = (0)) := of_decide_eq_false hc
          rw [if_neg hc3] at h
          refine px_D_st 2 (ip1 := 20) (ls1 := [(3, .inl (1)), (2, .inl (s 122 (s 121 4).toNat)), (0, .inr (.inr 121)), (1, .inl (x1))]) (st1 := [.inl (8), .inl (x1)]) (h1 := (px_G1, s)) rfl ?_
          refine px_D_icmp rfl (fun hc => ?_) (fun hc => ?_)
          · have hc29 : (x1) < (8) := of_decide_eq_true hc
            rw [if_pos hc29] at h
            refine px_D_st 2 (ip1 := 27) (ls1 := [(3, .inl (1)), (2, .inl (s 122 (s 121 4).toNat)), (0, .inr (.inr 121)), (1, .inl (x1))]) (st1 := [.inl (272), .inl (s 122 (s 121 4).toNat)]) (h1 := (px_G1, s)) rfl ?_
            refine px_D_icmp rfl (fun hc => ?_) (fun hc => ?_)
            · have hc30 : ¬ ((s 122 (s 121 4).toNat) = (272)) := of_decide_eq_true hc
              rw [if_neg hc30] at h
              refine px_D_st 2 (ip1 := 42) (ls1 := [(3, .inl (1)), (2, .inl (s 122 (s 121 4).toNat)), (0, .inr (.inr 121)), (1, .inl (x1))]) (st1 := [.inl (40), .inl (s 122 (s 121 4).toNat)]) (h1 := (px_G1, s)) rfl ?_
              refine px_D_icmp rfl (fun hc => ?_) (fun hc => ?_)
              · have hc31 : ¬ ((s 122 (s 121 4).toNat) = (40)) := of_decide_eq_true hc
                rw [if_neg hc31] at h
                refine px_D_st 1 (ip1 := 55) (ls1 := [(3, .inl (1)), (2, .inl (s 122 (s 121 4).toNat)), (0, .inr (.inr 121)), (1, .inl (x1))]) (st1 := [.inr (.inr 121)]) (h1 := (px_G1, s)) rfl ?_
                refine px_D_call (as := [.inr (.inr 121)]) (rest := []) rfl rfl rfl rfl ?_
                obtain ⟨q32, hq32, h⟩ := Option.bind_eq_some_iff.mp h
                refine px_D_mono (c_Reader_readSum (d := d + 5) hq32) ?_
                rintro _ _ ⟨rfl, rfl⟩
                show px_D sc (d + 8) 57 56 [(3, .inl (1)), (2, .inl (s 122 (s 121 4).toNat)), (0, .inr (.inr 121)), (1, .inl (x1))] [] (px_G1, q32) _
                refine px_D_st 4 (ip1 := 60) (ls1 := [(3, .inl (1)), (2, .inl (s 122 (s 121 4).toNat)), (0, .inr (.inr 121)), (1, .inl (x1))]) (st1 := [.inl (q32 121 4), .inr (.inr 122)]) (h1 := (px_G1, q32)) rfl ?_
                by_cases hc33 : 0 ≤ (q32 121 4) ∧ (q32 121 4) < 401
                case neg => rw [if_neg hc33] at h; cases h
                rw [if_pos hc33] at h
                refine px_D_iald (k := 117) (n := 401) rfl rfl hc33 ?_
                refine px_D_st 3 (ip1 := 64) (ls1 := [(4, .inl (q32 122 (q32 121 4).toNat)), (3, .inl (1)), (2, .inl (s 122 (s 121 4).toNat)), (0, .inr (.inr 121)), (1, .inl (x1))]) (st1 := [.inl (q32 121 7)]) (h1 := (px_G1, q32)) rfl ?_
                refine px_D_ifc rfl (fun hc => ?_) (fun hc => ?_)
                · have hc34 : ¬ ((q32 121 7) = (0)) := of_decide_eq_true hc
                  rw [if_neg hc34] at h
                  refine px_D_st 2 (ip1 := 85) (ls1 := [(4, .inl (q32 122 (q32 121 4).toNat)), (3, .inl (1)), (2, .inl (s 122 (s 121 4).toNat)), (0, .inr (.inr 121)), (1, .inl (x1))]) (st1 := [.inl (1), .inr (.inr 121)]) (h1 := (px_G1, q32)) rfl ?_
                  refine px_D_call (as := [.inr (.inr 121), .inl (1)]) (rest := []) rfl rfl rfl rfl ?_
                  obtain ⟨q35, hq35, h⟩ := Option.bind_eq_some_iff.mp h
                  refine px_D_mono (c_Reader_fail (d := d + 7) hq35) ?_
                  rintro _ _ ⟨rfl, rfl⟩
                  show px_D sc (d + 8) 57 86 [(4, .inl (q32 122 (q32 121 4).toNat)), (3, .inl (1)), (2, .inl (s 122 (s 121 4).toNat)), (0, .inr (.inr 121)), (1, .inl (x1))] [] (px_G1, q35) _
                  cases h
                  exact px_D_vret rfl ⟨rfl, rfl⟩
                · have hc34 : (q32 121 7) = (0) := Decidable.of_not_not (of_decide_eq_false hc)
                  rw [if_pos hc34] at h
                  refine px_D_st 2 (ip1 := 67) (ls1 := [(4, .inl (q32 122 (q32 121 4).toNat)), (3, .inl (1)), (2, .inl (s 122 (s 121 4).toNat)), (0, .inr (.inr 121)), (1, .inl (x1))]) (st1 := [.inl (60), .inl (q32 122 (q32 121 4).toNat)]) (h1 := (px_G1, q32)) rfl ?_
                  refine px_D_icmp rfl (fun hc => ?_) (fun hc => ?_)
                  · have hc36 : (q32 122 (q32 121 4).toNat) = (60) := of_decide_eq_true hc
                    rw [if_pos hc36] at h
                    refine px_D_st 1 (ip1 := 75) (ls1 := [(4, .inl (q32 122 (q32 121 4).toNat)), (3, .inl (1)), (2, .inl (s 122 (s 121 4).toNat)), (0, .inr (.inr 121)), (1, .inl (x1))]) (st1 := [.inr (.inr 121)]) (h1 := (px_G1, q32)) rfl ?_
                    refine px_D_call (as := [.inr (.inr 121)]) (rest := []) rfl rfl rfl rfl ?_
                    obtain ⟨q37, hq37, h⟩ := Option.bind_eq_some_iff.mp h
                    refine px_D_mono (c_Reader_step (d := d + 7) hq37) ?_
                    rintro _ _ ⟨rfl, rfl⟩
                    show px_D sc (d + 8) 57 76 [(4, .inl (q32 122 (q32 121 4).toNat)), (3, .inl (1)), (2, .inl (s 122 (s 121 4).toNat)), (0, .inr (.inr 121)), (1, .inl (x1))] [] (px_G1, q37) _
                    refine px_D_st 1 (ip1 := 77) (ls1 := [(4, .inl (q32 122 (q32 121 4).toNat)), (3, .inl (1)), (2, .inl (s 122 (s 121 4).toNat)), (0, .inr (.inr 121)), (1, .inl (x1))]) (st1 := [.inr (.inr 121)]) (h1 := (px_G1, q37)) rfl ?_
                    refine px_D_call (as := [.inr (.inr 121)]) (rest := []) rfl rfl rfl rfl ?_
                    obtain ⟨q38, hq38, h⟩ := Option.bind_eq_some_iff.mp h
                    refine px_D_mono (c_Reader_readSum (d := d + 5) hq38) ?_
                    rintro _ _ ⟨rfl, rfl⟩
                    show px_D sc (d + 8) 57 78 [(4, .inl (q32 122 (q32 121 4).toNat)), (3, .inl (1)), (2, .inl (s 122 (s 121 4).toNat)), (0, .inr (.inr 121)), (1, .inl (x1))] [] (px_G1, q38) _
                    refine px_D_st 3 (ip1 := 81) (ls1 := [(4, .inl (q32 122 (q32 121 4).toNat)), (3, .inl (1)), (2, .inl (s 122 (s 121 4).toNat)), (0, .inr (.inr 121)), (1, .inl (x1))]) (st1 := [.inl (q32 122 (q32 121 4).toNat), .inr (.inr 125)]) (h1 := (px_G1, q38)) rfl ?_
                    refine px_D_call (as := [.inr (.inr 125), .inl (q32 122 (q32 121 4).toNat)]) (rest := []) rfl rfl rfl rfl ?_
                    obtain ⟨q39, hq39, h⟩ := Option.bind_eq_some_iff.mp h
                    refine px_D_mono (c_Law_put (d := d + 7) hq39) ?_
                    rintro _ _ ⟨rfl, rfl⟩
                    show px_D sc (d + 8) 57 82 [(4, .inl (q32 122 (q32 121 4).toNat)), (3, .inl (1)), (2, .inl (s 122 (s 121 4).toNat)), (0, .inr (.inr 121)), (1, .inl (x1))] [] (px_G1, q39) _
                    refine px_D_st 1 (ip1 := 86) (ls1 := [(4, .inl (q32 122 (q32 121 4).toNat)), (3, .inl (1)), (2, .inl (s 122 (s 121 4).toNat)), (0, .inr (.inr 121)), (1, .inl (x1))]) (st1 := []) (h1 := (px_G1, q39)) rfl ?_
                    cases h
                    exact px_D_vret rfl ⟨rfl, rfl⟩
                  · have hc36 : ¬ ((q32 122 (q32 121 4).toNat) = (60)) := of_decide_eq_false hc
                    rw [if_neg hc36] at h
                    refine px_D_st 2 (ip1 := 70) (ls1 := [(4, .inl (q32 122 (q32 121 4).toNat)), (3, .inl (1)), (2, .inl (s 122 (s 121 4).toNat)), (0, .inr (.inr 121)), (1, .inl (x1))]) (st1 := [.inl (61), .inl (q32 122 (q32 121 4).toNat)]) (h1 := (px_G1, q32)) rfl ?_
                    refine px_D_icmp rfl (fun hc => ?_) (fun hc => ?_)
                    · have hc40 : (q32 122 (q32 121 4).toNat) = (61) := of_decide_eq_true hc
                      rw [if_pos hc40] at h
                      refine px_D_st 1 (ip1 := 75) (ls1 := [(4, .inl (q32 122 (q32 121 4).toNat)), (3, .inl (1)), (2, .inl (s 122 (s 121 4).toNat)), (0, .inr (.inr 121)), (1, .inl (x1))]) (st1 := [.inr (.inr 121)]) (h1 := (px_G1, q32)) rfl ?_
                      refine px_D_call (as := [.inr (.inr 121)]) (rest := []) rfl rfl rfl rfl ?_
                      obtain ⟨q41, hq41, h⟩ := Option.bind_eq_some_iff.mp h
                      refine px_D_mono (c_Reader_step (d := d + 7) hq41) ?_
                      rintro _ _ ⟨rfl, rfl⟩
                      show px_D sc (d + 8) 57 76 [(4, .inl (q32 122 (q32 121 4).toNat)), (3, .inl (1)), (2, .inl (s 122 (s 121 4).toNat)), (0, .inr (.inr 121)), (1, .inl (x1))] [] (px_G1, q41) _
                      refine px_D_st 1 (ip1 := 77) (ls1 := [(4, .inl (q32 122 (q32 121 4).toNat)), (3, .inl (1)), (2, .inl (s 122 (s 121 4).toNat)), (0, .inr (.inr 121)), (1, .inl (x1))]) (st1 := [.inr (.inr 121)]) (h1 := (px_G1, q41)) rfl ?_
                      refine px_D_call (as := [.inr (.inr 121)]) (rest := []) rfl rfl rfl rfl ?_
                      obtain ⟨q42, hq42, h⟩ := Option.bind_eq_some_iff.mp h
                      refine px_D_mono (c_Reader_readSum (d := d + 5) hq42) ?_
                      rintro _ _ ⟨rfl, rfl⟩
                      show px_D sc (d + 8) 57 78 [(4, .inl (q32 122 (q32 121 4).toNat)), (3, .inl (1)), (2, .inl (s 122 (s 121 4).toNat)), (0, .inr (.inr 121)), (1, .inl (x1))] [] (px_G1, q42) _
                      refine px_D_st 3 (ip1 := 81) (ls1 := [(4, .inl (q32 122 (q32 121 4).toNat)), (3, .inl (1)), (2, .inl (s 122 (s 121 4).toNat)), (0, .inr (.inr 121)), (1, .inl (x1))]) (st1 := [.inl (q32 122 (q32 121 4).toNat), .inr (.inr 125)]) (h1 := (px_G1, q42)) rfl ?_
                      refine px_D_call (as := [.inr (.inr 125), .inl (q32 122 (q32 121 4).toNat)]) (rest := []) rfl rfl rfl rfl ?_
                      obtain ⟨q43, hq43, h⟩ := Option.bind_eq_some_iff.mp h
                      refine px_D_mono (c_Law_put (d := d + 7) hq43) ?_
                      rintro _ _ ⟨rfl, rfl⟩
                      show px_D sc (d + 8) 57 82 [(4, .inl (q32 122 (q32 121 4).toNat)), (3, .inl (1)), (2, .inl (s 122 (s 121 4).toNat)), (0, .inr (.inr 121)), (1, .inl (x1))] [] (px_G1, q43) _
                      refine px_D_st 1 (ip1 := 86) (ls1 := [(4, .inl (q32 122 (q32 121 4).toNat)), (3, .inl (1)), (2, .inl (s 122 (s 121 4).toNat)), (0, .inr (.inr 121)), (1, .inl (x1))]) (st1 := []) (h1 := (px_G1, q43)) rfl ?_
                      cases h
                      exact px_D_vret rfl ⟨rfl, rfl⟩
                    · have hc40 : ¬ ((q32 122 (q32 121 4).toNat) = (61)) := of_decide_eq_false hc
                      rw [if_neg hc40] at h
                      refine px_D_st 2 (ip1 := 73) (ls1 := [(4, .inl (q32 122 (q32 121 4).toNat)), (3, .inl (1)), (2, .inl (s 122 (s 121 4).toNat)), (0, .inr (.inr 121)), (1, .inl (x1))]) (st1 := [.inl (62), .inl (q32 122 (q32 121 4).toNat)]) (h1 := (px_G1, q32)) rfl ?_
                      refine px_D_icmp rfl (fun hc => ?_) (fun hc => ?_)
                      · have hc44 : ¬ ((q32 122 (q32 121 4).toNat) = (62)) := of_decide_eq_true hc
                        rw [if_neg hc44] at h
                        refine px_D_st 2 (ip1 := 85) (ls1 := [(4, .inl (q32 122 (q32 121 4).toNat)), (3, .inl (1)), (2, .inl (s 122 (s 121 4).toNat)), (0, .inr (.inr 121)), (1, .inl (x1))]) (st1 := [.inl (1), .inr (.inr 121)]) (h1 := (px_G1, q32)) rfl ?_
                        refine px_D_call (as := [.inr (.inr 121), .inl (1)]) (rest := []) rfl rfl rfl rfl ?_
                        obtain ⟨q45, hq45, h⟩ := Option.bind_eq_some_iff.mp h
                        refine px_D_mono (c_Reader_fail (d := d + 7) hq45) ?_
                        rintro _ _ ⟨rfl, rfl⟩
                        show px_D sc (d + 8) 57 86 [(4, .inl (q32 122 (q32 121 4).toNat)), (3, .inl (1)), (2, .inl (s 122 (s 121 4).toNat)), (0, .inr (.inr 121)), (1, .inl (x1))] [] (px_G1, q45) _
                        cases h
                        exact px_D_vret rfl ⟨rfl, rfl⟩
                      · have hc44 : (q32 122 (q32 121 4).toNat) = (62) := Decidable.of_not_not (of_decide_eq_false hc)
                        rw [if_pos hc44] at h
                        refine px_D_st 1 (ip1 := 75) (ls1 := [(4, .inl (q32 122 (q32 121 4).toNat)), (3, .inl (1)), (2, .inl (s 122 (s 121 4).toNat)), (0, .inr (.inr 121)), (1, .inl (x1))]) (st1 := [.inr (.inr 121)]) (h1 := (px_G1, q32)) rfl ?_
                        refine px_D_call (as := [.inr (.inr 121)]) (rest := []) rfl rfl rfl rfl ?_
                        obtain ⟨q46, hq46, h⟩ := Option.bind_eq_some_iff.mp h
                        refine px_D_mono (c_Reader_step (d := d + 7) hq46) ?_
                        rintro _ _ ⟨rfl, rfl⟩
                        show px_D sc (d + 8) 57 76 [(4, .inl (q32 122 (q32 121 4).toNat)), (3, .inl (1)), (2, .inl (s 122 (s 121 4).toNat)), (0, .inr (.inr 121)), (1, .inl (x1))] [] (px_G1, q46) _
                        refine px_D_st 1 (ip1 := 77) (ls1 := [(4, .inl (q32 122 (q32 121 4).toNat)), (3, .inl (1)), (2, .inl (s 122 (s 121 4).toNat)), (0, .inr (.inr 121)), (1, .inl (x1))]) (st1 := [.inr (.inr 121)]) (h1 := (px_G1, q46)) rfl ?_
                        refine px_D_call (as := [.inr (.inr 121)]) (rest := []) rfl rfl rfl rfl ?_
                        obtain ⟨q47, hq47, h⟩ := Option.bind_eq_some_iff.mp h
                        refine px_D_mono (c_Reader_readSum (d := d + 5) hq47) ?_
                        rintro _ _ ⟨rfl, rfl⟩
                        show px_D sc (d + 8) 57 78 [(4, .inl (q32 122 (q32 121 4).toNat)), (3, .inl (1)), (2, .inl (s 122 (s 121 4).toNat)), (0, .inr (.inr 121)), (1, .inl (x1))] [] (px_G1, q47) _
                        refine px_D_st 3 (ip1 := 81) (ls1 := [(4, .inl (q32 122 (q32 121 4).toNat)), (3, .inl (1)), (2, .inl (s 122 (s 121 4).toNat)), (0, .inr (.inr 121)), (1, .inl (x1))]) (st1 := [.inl (q32 122 (q32 121 4).toNat), .inr (.inr 125)]) (h1 := (px_G1, q47)) rfl ?_
                        refine px_D_call (as := [.inr (.inr 125), .inl (q32 122 (q32 121 4).toNat)]) (rest := []) rfl rfl rfl rfl ?_
                        obtain ⟨q48, hq48, h⟩ := Option.bind_eq_some_iff.mp h
                        refine px_D_mono (c_Law_put (d := d + 7) hq48) ?_
                        rintro _ _ ⟨rfl, rfl⟩
                        show px_D sc (d + 8) 57 82 [(4, .inl (q32 122 (q32 121 4).toNat)), (3, .inl (1)), (2, .inl (s 122 (s 121 4).toNat)), (0, .inr (.inr 121)), (1, .inl (x1))] [] (px_G1, q48) _
                        refine px_D_st 1 (ip1 := 86) (ls1 := [(4, .inl (q32 122 (q32 121 4).toNat)), (3, .inl (1)), (2, .inl (s 122 (s 121 4).toNat)), (0, .inr (.inr 121)), (1, .inl (x1))]) (st1 := []) (h1 := (px_G1, q48)) rfl ?_
                        cases h
                        exact px_D_vret rfl ⟨rfl, rfl⟩
              · have hc31 : (s 122 (s 121 4).toNat) = (40) := Decidable.of_not_not (of_decide_eq_false hc)
                rw [if_pos hc31] at h
                refine px_D_st 1 (ip1 := 44) (ls1 := [(3, .inl (1)), (2, .inl (s 122 (s 121 4).toNat)), (0, .inr (.inr 121)), (1, .inl (x1))]) (st1 := [.inr (.inr 121)]) (h1 := (px_G1, s)) rfl ?_
                refine px_D_call (as := [.inr (.inr 121)]) (rest := []) rfl rfl rfl rfl ?_
                obtain ⟨q49, hq49, h⟩ := Option.bind_eq_some_iff.mp h
                refine px_D_mono (c_Reader_step (d := d + 7) hq49) ?_
                rintro _ _ ⟨rfl, rfl⟩
                show px_D sc (d + 8) 57 45 [(3, .inl (1)), (2, .inl (s 122 (s 121 4).toNat)), (0, .inr (.inr 121)), (1, .inl (x1))] [] (px_G1, q49) _
                refine px_D_st 4 (ip1 := 49) (ls1 := [(3, .inl (1)), (2, .inl (s 122 (s 121 4).toNat)), (0, .inr (.inr 121)), (1, .inl (x1))]) (st1 := [.inl (px_wr (x1 + 1)), .inr (.inr 121)]) (h1 := (px_G1, q49)) rfl ?_
                refine px_D_call (as := [.inr (.inr 121), .inl (px_wr (x1 + 1))]) (rest := []) rfl rfl rfl rfl ?_
                obtain ⟨q50, hq50, h⟩ := Option.bind_eq_some_iff.mp h
                refine px_D_mono (hg0 _ _ _ hq50) ?_
                rintro _ _ ⟨rfl, rfl⟩
                show px_D sc (d + 8) 57 50 [(3, .inl (1)), (2, .inl (s 122 (s 121 4).toNat)), (0, .inr (.inr 121)), (1, .inl (x1))] [] (px_G1, q50) _
                refine px_D_st 2 (ip1 := 52) (ls1 := [(3, .inl (1)), (2, .inl (s 122 (s 121 4).toNat)), (0, .inr (.inr 121)), (1, .inl (x1))]) (st1 := [.inl (41), .inr (.inr 121)]) (h1 := (px_G1, q50)) rfl ?_
                refine px_D_call (as := [.inr (.inr 121), .inl (41)]) (rest := []) rfl rfl rfl rfl ?_
                obtain ⟨q51, hq51, h⟩ := Option.bind_eq_some_iff.mp h
                refine px_D_mono (c_Reader_expect (d := d + 6) hq51) ?_
                rintro _ _ ⟨rfl, rfl⟩
                show px_D sc (d + 8) 57 53 [(3, .inl (1)), (2, .inl (s 122 (s 121 4).toNat)), (0, .inr (.inr 121)), (1, .inl (x1))] [] (px_G1, q51) _
                refine px_D_st 1 (ip1 := 86) (ls1 := [(3, .inl (1)), (2, .inl (s 122 (s 121 4).toNat)), (0, .inr (.inr 121)), (1, .inl (x1))]) (st1 := []) (h1 := (px_G1, q51)) rfl ?_
                cases h
                exact px_D_vret rfl ⟨rfl, rfl⟩
            · have hc30 : (s 122 (s 121 4).toNat) = (272) := Decidable.of_not_not (of_decide_eq_false hc)
              rw [if_pos hc30] at h
              refine px_D_st 1 (ip1 := 29) (ls1 := [(3, .inl (1)), (2, .inl (s 122 (s 121 4).toNat)), (0, .inr (.inr 121)), (1, .inl (x1))]) (st1 := [.inr (.inr 121)]) (h1 := (px_G1, s)) rfl ?_
              refine px_D_call (as := [.inr (.inr 121)]) (rest := []) rfl rfl rfl rfl ?_
              obtain ⟨q52, hq52, h⟩ := Option.bind_eq_some_iff.mp h
              refine px_D_mono (c_Reader_step (d := d + 7) hq52) ?_
              rintro _ _ ⟨rfl, rfl⟩
              show px_D sc (d + 8) 57 30 [(3, .inl (1)), (2, .inl (s 122 (s 121 4).toNat)), (0, .inr (.inr 121)), (1, .inl (x1))] [] (px_G1, q52) _
              refine px_D_st 4 (ip1 := 34) (ls1 := [(3, .inl (1)), (2, .inl (s 122 (s 121 4).toNat)), (0, .inr (.inr 121)), (1, .inl (x1))]) (st1 := [.inl (px_wr (x1 + 1)), .inr (.inr 121)]) (h1 := (px_G1, q52)) rfl ?_
              refine px_D_call (as := [.inr (.inr 121), .inl (px_wr (x1 + 1))]) (rest := []) rfl rfl rfl rfl ?_
              obtain ⟨q53, hq53, h⟩ := Option.bind_eq_some_iff.mp h
              refine px_D_mono (hg1 _ _ _ hq53) ?_
              rintro _ _ ⟨rfl, rfl⟩
              show px_D sc (d + 8) 57 35 [(3, .inl (1)), (2, .inl (s 122 (s 121 4).toNat)), (0, .inr (.inr 121)), (1, .inl (x1))] [] (px_G1, q53) _
              refine px_D_st 3 (ip1 := 38) (ls1 := [(3, .inl (1)), (2, .inl (s 122 (s 121 4).toNat)), (0, .inr (.inr 121)), (1, .inl (x1))]) (st1 := [.inl (272), .inr (.inr 125)]) (h1 := (px_G1, q53)) rfl ?_
              refine px_D_call (as := [.inr (.inr 125), .inl (272)]) (rest := []) rfl rfl rfl rfl ?_
              obtain ⟨q54, hq54, h⟩ := Option.bind_eq_some_iff.mp h
              refine px_D_mono (c_Law_put (d := d + 7) hq54) ?_
              rintro _ _ ⟨rfl, rfl⟩
              show px_D sc (d + 8) 57 39 [(3, .inl (1)), (2, .inl (s 122 (s 121 4).toNat)), (0, .inr (.inr 121)), (1, .inl (x1))] [] (px_G1, q54) _
              refine px_D_st 1 (ip1 := 86) (ls1 := [(3, .inl (1)), (2, .inl (s 122 (s 121 4).toNat)), (0, .inr (.inr 121)), (1, .inl (x1))]) (st1 := []) (h1 := (px_G1, q54)) rfl ?_
              cases h
              exact px_D_vret rfl ⟨rfl, rfl⟩
          · have hc29 : ¬ ((x1) < (8)) := of_decide_eq_false hc
            rw [if_neg hc29] at h
            refine px_D_st 2 (ip1 := 23) (ls1 := [(3, .inl (1)), (2, .inl (s 122 (s 121 4).toNat)), (0, .inr (.inr 121)), (1, .inl (x1))]) (st1 := [.inl (3), .inr (.inr 121)]) (h1 := (px_G1, s)) rfl ?_
            refine px_D_call (as := [.inr (.inr 121), .inl (3)]) (rest := []) rfl rfl rfl rfl ?_
            obtain ⟨q55, hq55, h⟩ := Option.bind_eq_some_iff.mp h
            refine px_D_mono (c_Reader_fail (d := d + 7) hq55) ?_
            rintro _ _ ⟨rfl, rfl⟩
            show px_D sc (d + 8) 57 24 [(3, .inl (1)), (2, .inl (s 122 (s 121 4).toNat)), (0, .inr (.inr 121)), (1, .inl (x1))] [] (px_G1, q55) _
            refine px_D_st 1 (ip1 := 86) (ls1 := [(3, .inl (1)), (2, .inl (s 122 (s 121 4).toNat)), (0, .inr (.inr 121)), (1, .inl (x1))]) (st1 := []) (h1 := (px_G1, q55)) rfl ?_
            cases h
            exact px_D_vret rfl ⟨rfl, rfl⟩
      · have hc2 : ¬ ((s 122 (s 121 4).toNat) = (272)) := of_decide_eq_false hc
        rw [if_neg hc2] at h
        refine px_D_st 2 (ip1 := 11) (ls1 := [(2, .inl (s 122 (s 121 4).toNat)), (0, .inr (.inr 121)), (1, .inl (x1))]) (st1 := [.inl (40), .inl (s 122 (s 121 4).toNat)]) (h1 := (px_G1, s)) rfl ?_
        refine px_D_icmp rfl (fun hc => ?_) (fun hc => ?_)
        · have hc56 : ¬ ((s 122 (s 121 4).toNat) = (40)) := of_decide_eq_true hc
          rw [if_neg hc56] at h
          refine px_D_st 3 (ip1 := 17) (ls1 := [(3, .inl (0)), (2, .inl (s 122 (s 121 4).toNat)), (0, .inr (.inr 121)), (1, .inl (x1))]) (st1 := [.inl (0)]) (h1 := (px_G1, s)) rfl ?_
          refine px_D_ifc rfl (fun hc => ?_) (fun hc => ?_)
          · have hc57 : (0) = (0) := of_decide_eq_true hc
            rw [if_pos hc57] at h
            refine px_D_st 2 (ip1 := 27) (ls1 := [(3, .inl (0)), (2, .inl (s 122 (s 121 4).toNat)), (0, .inr (.inr 121)), (1, .inl (x1))]) (st1 := [.inl (272), .inl (s 122 (s 121 4).toNat)]) (h1 := (px_G1, s)) rfl ?_
            refine px_D_icmp rfl (fun hc => ?_) (fun hc => ?_)
            · have hc58 : ¬ ((s 122 (s 121 4).toNat) = (272)) := of_decide_eq_true hc
              rw [if_neg hc58] at h
              refine px_D_st 2 (ip1 := 42) (ls1 := [(3, .inl (0)), (2, .inl (s 122 (s 121 4).toNat)), (0, .inr (.inr 121)), (1, .inl (x1))]) (st1 := [.inl (40), .inl (s 122 (s 121 4).toNat)]) (h1 := (px_G1, s)) rfl ?_
              refine px_D_icmp rfl (fun hc => ?_) (fun hc => ?_)
              · have hc59 : ¬ ((s 122 (s 121 4).toNat) = (40)) := of_decide_eq_true hc
                rw [if_neg hc59] at h
                refine px_D_st 1 (ip1 := 55) (ls1 := [(3, .inl (0)), (2, .inl (s 122 (s 121 4).toNat)), (0, .inr (.inr 121)), (1, .inl (x1))]) (st1 := [.inr (.inr 121)]) (h1 := (px_G1, s)) rfl ?_
                refine px_D_call (as := [.inr (.inr 121)]) (rest := []) rfl rfl rfl rfl ?_
                obtain ⟨q60, hq60, h⟩ := Option.bind_eq_some_iff.mp h
                refine px_D_mono (c_Reader_readSum (d := d + 5) hq60) ?_
                rintro _ _ ⟨rfl, rfl⟩
                show px_D sc (d + 8) 57 56 [(3, .inl (0)), (2, .inl (s 122 (s 121 4).toNat)), (0, .inr (.inr 121)), (1, .inl (x1))] [] (px_G1, q60) _
                refine px_D_st 4 (ip1 := 60) (ls1 := [(3, .inl (0)), (2, .inl (s 122 (s 121 4).toNat)), (0, .inr (.inr 121)), (1, .inl (x1))]) (st1 := [.inl (q60 121 4), .inr (.inr 122)]) (h1 := (px_G1, q60)) rfl ?_
                by_cases hc61 : 0 ≤ (q60 121 4) ∧ (q60 121 4) < 401
                case neg => rw [if_neg hc61] at h; cases h
                rw [if_pos hc61] at h
                refine px_D_iald (k := 117) (n := 401) rfl rfl hc61 ?_
                refine px_D_st 3 (ip1 := 64) (ls1 := [(4, .inl (q60 122 (q60 121 4).toNat)), (3, .inl (0)), (2, .inl (s 122 (s 121 4).toNat)), (0, .inr (.inr 121)), (1, .inl (x1))]) (st1 := [.inl (q60 121 7)]) (h1 := (px_G1, q60)) rfl ?_
                refine px_D_ifc rfl (fun hc => ?_) (fun hc => ?_)
                · have hc62 : ¬ ((q60 121 7) = (0)) := of_decide_eq_true hc
                  rw [if_neg hc62] at h
                  refine px_D_st 2 (ip1 := 85) (ls1 := [(4, .inl (q60 122 (q60 121 4).toNat)), (3, .inl (0)), (2, .inl (s 122 (s 121 4).toNat)), (0, .inr (.inr 121)), (1, .inl (x1))]) (st1 := [.inl (1), .inr (.inr 121)]) (h1 := (px_G1, q60)) rfl ?_
                  refine px_D_call (as := [.inr (.inr 121), .inl (1)]) (rest := []) rfl rfl rfl rfl ?_
                  obtain ⟨q63, hq63, h⟩ := Option.bind_eq_some_iff.mp h
                  refine px_D_mono (c_Reader_fail (d := d + 7) hq63) ?_
                  rintro _ _ ⟨rfl, rfl⟩
                  show px_D sc (d + 8) 57 86 [(4, .inl (q60 122 (q60 121 4).toNat)), (3, .inl (0)), (2, .inl (s 122 (s 121 4).toNat)), (0, .inr (.inr 121)), (1, .inl (x1))] [] (px_G1, q63) _
                  cases h
                  exact px_D_vret rfl ⟨rfl, rfl⟩
                · have hc62 : (q60 121 7) = (0) := Decidable.of_not_not (of_decide_eq_false hc)
                  rw [if_pos hc62] at h
                  refine px_D_st 2 (ip1 := 67) (ls1 := [(4, .inl (q60 122 (q60 121 4).toNat)), (3, .inl (0)), (2, .inl (s 122 (s 121 4).toNat)), (0, .inr (.inr 121)), (1, .inl (x1))]) (st1 := [.inl (60), .inl (q60 122 (q60 121 4).toNat)]) (h1 := (px_G1, q60)) rfl ?_
                  refine px_D_icmp rfl (fun hc => ?_) (fun hc => ?_)
                  · have hc64 : (q60 122 (q60 121 4).toNat) = (60) := of_decide_eq_true hc
                    rw [if_pos hc64] at h
                    refine px_D_st 1 (ip1 := 75) (ls1 := [(4, .inl (q60 122 (q60 121 4).toNat)), (3, .inl (0)), (2, .inl (s 122 (s 121 4).toNat)), (0, .inr (.inr 121)), (1, .inl (x1))]) (st1 := [.inr (.inr 121)]) (h1 := (px_G1, q60)) rfl ?_
                    refine px_D_call (as := [.inr (.inr 121)]) (rest := []) rfl rfl rfl rfl ?_
                    obtain ⟨q65, hq65, h⟩ := Option.bind_eq_some_iff.mp h
                    refine px_D_mono (c_Reader_step (d := d + 7) hq65) ?_
                    rintro _ _ ⟨rfl, rfl⟩
                    show px_D sc (d + 8) 57 76 [(4, .inl (q60 122 (q60 121 4).toNat)), (3, .inl (0)), (2, .inl (s 122 (s 121 4).toNat)), (0, .inr (.inr 121)), (1, .inl (x1))] [] (px_G1, q65) _
                    refine px_D_st 1 (ip1 := 77) (ls1 := [(4, .inl (q60 122 (q60 121 4).toNat)), (3, .inl (0)), (2, .inl (s 122 (s 121 4).toNat)), (0, .inr (.inr 121)), (1, .inl (x1))]) (st1 := [.inr (.inr 121)]) (h1 := (px_G1, q65)) rfl ?_
                    refine px_D_call (as := [.inr (.inr 121)]) (rest := []) rfl rfl rfl rfl ?_
                    obtain ⟨q66, hq66, h⟩ := Option.bind_eq_some_iff.mp h
                    refine px_D_mono (c_Reader_readSum (d := d + 5) hq66) ?_
                    rintro _ _ ⟨rfl, rfl⟩
                    show px_D sc (d + 8) 57 78 [(4, .inl (q60 122 (q60 121 4).toNat)), (3, .inl (0)), (2, .inl (s 122 (s 121 4).toNat)), (0, .inr (.inr 121)), (1, .inl (x1))] [] (px_G1, q66) _
                    refine px_D_st 3 (ip1 := 81) (ls1 := [(4, .inl (q60 122 (q60 121 4).toNat)), (3, .inl (0)), (2, .inl (s 122 (s 121 4).toNat)), (0, .inr (.inr 121)), (1, .inl (x1))]) (st1 := [.inl (q60 122 (q60 121 4).toNat), .inr (.inr 125)]) (h1 := (px_G1, q66)) rfl ?_
                    refine px_D_call (as := [.inr (.inr 125), .inl (q60 122 (q60 121 4).toNat)]) (rest := []) rfl rfl rfl rfl ?_
                    obtain ⟨q67, hq67, h⟩ := Option.bind_eq_some_iff.mp h
                    refine px_D_mono (c_Law_put (d := d + 7) hq67) ?_
                    rintro _ _ ⟨rfl, rfl⟩
                    show px_D sc (d + 8) 57 82 [(4, .inl (q60 122 (q60 121 4).toNat)), (3, .inl (0)), (2, .inl (s 122 (s 121 4).toNat)), (0, .inr (.inr 121)), (1, .inl (x1))] [] (px_G1, q67) _
                    refine px_D_st 1 (ip1 := 86) (ls1 := [(4, .inl (q60 122 (q60 121 4).toNat)), (3, .inl (0)), (2, .inl (s 122 (s 121 4).toNat)), (0, .inr (.inr 121)), (1, .inl (x1))]) (st1 := []) (h1 := (px_G1, q67)) rfl ?_
                    cases h
                    exact px_D_vret rfl ⟨rfl, rfl⟩
                  · have hc64 : ¬ ((q60 122 (q60 121 4).toNat) = (60)) := of_decide_eq_false hc
                    rw [if_neg hc64] at h
                    refine px_D_st 2 (ip1 := 70) (ls1 := [(4, .inl (q60 122 (q60 121 4).toNat)), (3, .inl (0)), (2, .inl (s 122 (s 121 4).toNat)), (0, .inr (.inr 121)), (1, .inl (x1))]) (st1 := [.inl (61), .inl (q60 122 (q60 121 4).toNat)]) (h1 := (px_G1, q60)) rfl ?_
                    refine px_D_icmp rfl (fun hc => ?_) (fun hc => ?_)
                    · have hc68 : (q60 122 (q60 121 4).toNat) = (61) := of_decide_eq_true hc
                      rw [if_pos hc68] at h
                      refine px_D_st 1 (ip1 := 75) (ls1 := [(4, .inl (q60 122 (q60 121 4).toNat)), (3, .inl (0)), (2, .inl (s 122 (s 121 4).toNat)), (0, .inr (.inr 121)), (1, .inl (x1))]) (st1 := [.inr (.inr 121)]) (h1 := (px_G1, q60)) rfl ?_
                      refine px_D_call (as := [.inr (.inr 121)]) (rest := []) rfl rfl rfl rfl ?_
                      obtain ⟨q69, hq69, h⟩ := Option.bind_eq_some_iff.mp h
                      refine px_D_mono (c_Reader_step (d := d + 7) hq69) ?_
                      rintro _ _ ⟨rfl, rfl⟩
                      show px_D sc (d + 8) 57 76 [(4, .inl (q60 122 (q60 121 4).toNat)), (3, .inl (0)), (2, .inl (s 122 (s 121 4).toNat)), (0, .inr (.inr 121)), (1, .inl (x1))] [] (px_G1, q69) _
                      refine px_D_st 1 (ip1 := 77) (ls1 := [(4, .inl (q60 122 (q60 121 4).toNat)), (3, .inl (0)), (2, .inl (s 122 (s 121 4).toNat)), (0, .inr (.inr 121)), (1, .inl (x1))]) (st1 := [.inr (.inr 121)]) (h1 := (px_G1, q69)) rfl ?_
                      refine px_D_call (as := [.inr (.inr 121)]) (rest := []) rfl rfl rfl rfl ?_
                      obtain ⟨q70, hq70, h⟩ := Option.bind_eq_some_iff.mp h
                      refine px_D_mono (c_Reader_readSum (d := d + 5) hq70) ?_
                      rintro _ _ ⟨rfl, rfl⟩
                      show px_D sc (d + 8) 57 78 [(4, .inl (q60 122 (q60 121 4).toNat)), (3, .inl (0)), (2, .inl (s 122 (s 121 4).toNat)), (0, .inr (.inr 121)), (1, .inl (x1))] [] (px_G1, q70) _
                      refine px_D_st 3 (ip1 := 81) (ls1 := [(4, .inl (q60 122 (q60 121 4).toNat)), (3, .inl (0)), (2, .inl (s 122 (s 121 4).toNat)), (0, .inr (.inr 121)), (1, .inl (x1))]) (st1 := [.inl (q60 122 (q60 121 4).toNat), .inr (.inr 125)]) (h1 := (px_G1, q70)) rfl ?_
                      refine px_D_call (as := [.inr (.inr 125), .inl (q60 122 (q60 121 4).toNat)]) (rest := []) rfl rfl rfl rfl ?_
                      obtain ⟨q71, hq71, h⟩ := Option.bind_eq_some_iff.mp h
                      refine px_D_mono (c_Law_put (d := d + 7) hq71) ?_
                      rintro _ _ ⟨rfl, rfl⟩
                      show px_D sc (d + 8) 57 82 [(4, .inl (q60 122 (q60 121 4).toNat)), (3, .inl (0)), (2, .inl (s 122 (s 121 4).toNat)), (0, .inr (.inr 121)), (1, .inl (x1))] [] (px_G1, q71) _
                      refine px_D_st 1 (ip1 := 86) (ls1 := [(4, .inl (q60 122 (q60 121 4).toNat)), (3, .inl (0)), (2, .inl (s 122 (s 121 4).toNat)), (0, .inr (.inr 121)), (1, .inl (x1))]) (st1 := []) (h1 := (px_G1, q71)) rfl ?_
                      cases h
                      exact px_D_vret rfl ⟨rfl, rfl⟩
                    · have hc68 : ¬ ((q60 122 (q60 121 4).toNat) = (61)) := of_decide_eq_false hc
                      rw [if_neg hc68] at h
                      refine px_D_st 2 (ip1 := 73) (ls1 := [(4, .inl (q60 122 (q60 121 4).toNat)), (3, .inl (0)), (2, .inl (s 122 (s 121 4).toNat)), (0, .inr (.inr 121)), (1, .inl (x1))]) (st1 := [.inl (62), .inl (q60 122 (q60 121 4).toNat)]) (h1 := (px_G1, q60)) rfl ?_
                      refine px_D_icmp rfl (fun hc => ?_) (fun hc => ?_)
                      · have hc72 : ¬ ((q60 122 (q60 121 4).toNat) = (62)) := of_decide_eq_true hc
                        rw [if_neg hc72] at h
                        refine px_D_st 2 (ip1 := 85) (ls1 := [(4, .inl (q60 122 (q60 121 4).toNat)), (3, .inl (0)), (2, .inl (s 122 (s 121 4).toNat)), (0, .inr (.inr 121)), (1, .inl (x1))]) (st1 := [.inl (1), .inr (.inr 121)]) (h1 := (px_G1, q60)) rfl ?_
                        refine px_D_call (as := [.inr (.inr 121), .inl (1)]) (rest := []) rfl rfl rfl rfl ?_
                        obtain ⟨q73, hq73, h⟩ := Option.bind_eq_some_iff.mp h
                        refine px_D_mono (c_Reader_fail (d := d + 7) hq73) ?_
                        rintro _ _ ⟨rfl, rfl⟩
                        show px_D sc (d + 8) 57 86 [(4, .inl (q60 122 (q60 121 4).toNat)), (3, .inl (0)), (2, .inl (s 122 (s 121 4).toNat)), (0, .inr (.inr 121)), (1, .inl (x1))] [] (px_G1, q73) _
                        cases h
                        exact px_D_vret rfl ⟨rfl, rfl⟩
                      · have hc72 : (q60 122 (q60 121 4).toNat) = (62) := Decidable.of_not_not (of_decide_eq_false hc)
                        rw [if_pos hc72] at h
                        refine px_D_st 1 (ip1 := 75) (ls1 := [(4, .inl (q60 122 (q60 121 4).toNat)), (3, .inl (0)), (2, .inl (s 122 (s 121 4).toNat)), (0, .inr (.inr 121)), (1, .inl (x1))]) (st1 := [.inr (.inr 121)]) (h1 := (px_G1, q60)) rfl ?_
                        refine px_D_call (as := [.inr (.inr 121)]) (rest := []) rfl rfl rfl rfl ?_
                        obtain ⟨q74, hq74, h⟩ := Option.bind_eq_some_iff.mp h
                        refine px_D_mono (c_Reader_step (d := d + 7) hq74) ?_
                        rintro _ _ ⟨rfl, rfl⟩
                        show px_D sc (d + 8) 57 76 [(4, .inl (q60 122 (q60 121 4).toNat)), (3, .inl (0)), (2, .inl (s 122 (s 121 4).toNat)), (0, .inr (.inr 121)), (1, .inl (x1))] [] (px_G1, q74) _
                        refine px_D_st 1 (ip1 := 77) (ls1 := [(4, .inl (q60 122 (q60 121 4).toNat)), (3, .inl (0)), (2, .inl (s 122 (s 121 4).toNat)), (0, .inr (.inr 121)), (1, .inl (x1))]) (st1 := [.inr (.inr 121)]) (h1 := (px_G1, q74)) rfl ?_
                        refine px_D_call (as := [.inr (.inr 121)]) (rest := []) rfl rfl rfl rfl ?_
                        obtain ⟨q75, hq75, h⟩ := Option.bind_eq_some_iff.mp h
                        refine px_D_mono (c_Reader_readSum (d := d + 5) hq75) ?_
                        rintro _ _ ⟨rfl, rfl⟩
                        show px_D sc (d + 8) 57 78 [(4, .inl (q60 122 (q60 121 4).toNat)), (3, .inl (0)), (2, .inl (s 122 (s 121 4).toNat)), (0, .inr (.inr 121)), (1, .inl (x1))] [] (px_G1, q75) _
                        refine px_D_st 3 (ip1 := 81) (ls1 := [(4, .inl (q60 122 (q60 121 4).toNat)), (3, .inl (0)), (2, .inl (s 122 (s 121 4).toNat)), (0, .inr (.inr 121)), (1, .inl (x1))]) (st1 := [.inl (q60 122 (q60 121 4).toNat), .inr (.inr 125)]) (h1 := (px_G1, q75)) rfl ?_
                        refine px_D_call (as := [.inr (.inr 125), .inl (q60 122 (q60 121 4).toNat)]) (rest := []) rfl rfl rfl rfl ?_
                        obtain ⟨q76, hq76, h⟩ := Option.bind_eq_some_iff.mp h
                        refine px_D_mono (c_Law_put (d := d + 7) hq76) ?_
                        rintro _ _ ⟨rfl, rfl⟩
                        show px_D sc (d + 8) 57 82 [(4, .inl (q60 122 (q60 121 4).toNat)), (3, .inl (0)), (2, .inl (s 122 (s 121 4).toNat)), (0, .inr (.inr 121)), (1, .inl (x1))] [] (px_G1, q76) _
                        refine px_D_st 1 (ip1 := 86) (ls1 := [(4, .inl (q60 122 (q60 121 4).toNat)), (3, .inl (0)), (2, .inl (s 122 (s 121 4).toNat)), (0, .inr (.inr 121)), (1, .inl (x1))]) (st1 := []) (h1 := (px_G1, q76)) rfl ?_
                        cases h
                        exact px_D_vret rfl ⟨rfl, rfl⟩
              · have hc59 : (s 122 (s 121 4).toNat) = (40) := Decidable.of_not_not (of_decide_eq_false hc)
                rw [if_pos hc59] at h
                refine px_D_st 1 (ip1 := 44) (ls1 := [(3, .inl (0)), (2, .inl (s 122 (s 121 4).toNat)), (0, .inr (.inr 121)), (1, .inl (x1))]) (st1 := [.inr (.inr 121)]) (h1 := (px_G1, s)) rfl ?_
                refine px_D_call (as := [.inr (.inr 121)]) (rest := []) rfl rfl rfl rfl ?_
                obtain ⟨q77, hq77, h⟩ := Option.bind_eq_some_iff.mp h
                refine px_D_mono (c_Reader_step (d := d + 7) hq77) ?_
                rintro _ _ ⟨rfl, rfl⟩
                show px_D sc (d + 8) 57 45 [(3, .inl (0)), (2, .inl (s 122 (s 121 4).toNat)), (0, .inr (.inr 121)), (1, .inl (x1))] [] (px_G1, q77) _
                refine px_D_st 4 (ip1 := 49) (ls1 := [(3, .inl (0)), (2, .inl (s 122 (s 121 4).toNat)), (0, .inr (.inr 121)), (1, .inl (x1))]) (st1 := [.inl (px_wr (x1 + 1)), .inr (.inr 121)]) (h1 := (px_G1, q77)) rfl ?_
                refine px_D_call (as := [.inr (.inr 121), .inl (px_wr (x1 + 1))]) (rest := []) rfl rfl rfl rfl ?_
                obtain ⟨q78, hq78, h⟩ := Option.bind_eq_some_iff.mp h
                refine px_D_mono (hg0 _ _ _ hq78) ?_
                rintro _ _ ⟨rfl, rfl⟩
                show px_D sc (d + 8) 57 50 [(3, .inl (0)), (2, .inl (s 122 (s 121 4).toNat)), (0, .inr (.inr 121)), (1, .inl (x1))] [] (px_G1, q78) _
                refine px_D_st 2 (ip1 := 52) (ls1 := [(3, .inl (0)), (2, .inl (s 122 (s 121 4).toNat)), (0, .inr (.inr 121)), (1, .inl (x1))]) (st1 := [.inl (41), .inr (.inr 121)]) (h1 := (px_G1, q78)) rfl ?_
                refine px_D_call (as := [.inr (.inr 121), .inl (41)]) (rest := []) rfl rfl rfl rfl ?_
                obtain ⟨q79, hq79, h⟩ := Option.bind_eq_some_iff.mp h
                refine px_D_mono (c_Reader_expect (d := d + 6) hq79) ?_
                rintro _ _ ⟨rfl, rfl⟩
                show px_D sc (d + 8) 57 53 [(3, .inl (0)), (2, .inl (s 122 (s 121 4).toNat)), (0, .inr (.inr 121)), (1, .inl (x1))] [] (px_G1, q79) _
                refine px_D_st 1 (ip1 := 86) (ls1 := [(3, .inl (0)), (2, .inl (s 122 (s 121 4).toNat)), (0, .inr (.inr 121)), (1, .inl (x1))]) (st1 := []) (h1 := (px_G1, q79)) rfl ?_
                cases h
                exact px_D_vret rfl ⟨rfl, rfl⟩
            · have hc58 : (s 122 (s 121 4).toNat) = (272) := Decidable.of_not_not (of_decide_eq_false hc)
              rw [if_pos hc58] at h
              refine px_D_st 1 (ip1 := 29) (ls1 := [(3, .inl (0)), (2, .inl (s 122 (s 121 4).toNat)), (0, .inr (.inr 121)), (1, .inl (x1))]) (st1 := [.inr (.inr 121)]) (h1 := (px_G1, s)) rfl ?_
              refine px_D_call (as := [.inr (.inr 121)]) (rest := []) rfl rfl rfl rfl ?_
              obtain ⟨q80, hq80, h⟩ := Option.bind_eq_some_iff.mp h
              refine px_D_mono (c_Reader_step (d := d + 7) hq80) ?_
              rintro _ _ ⟨rfl, rfl⟩
              show px_D sc (d + 8) 57 30 [(3, .inl (0)), (2, .inl (s 122 (s 121 4).toNat)), (0, .inr (.inr 121)), (1, .inl (x1))] [] (px_G1, q80) _
              refine px_D_st 4 (ip1 := 34) (ls1 := [(3, .inl (0)), (2, .inl (s 122 (s 121 4).toNat)), (0, .inr (.inr 121)), (1, .inl (x1))]) (st1 := [.inl (px_wr (x1 + 1)), .inr (.inr 121)]) (h1 := (px_G1, q80)) rfl ?_
              refine px_D_call (as := [.inr (.inr 121), .inl (px_wr (x1 + 1))]) (rest := []) rfl rfl rfl rfl ?_
              obtain ⟨q81, hq81, h⟩ := Option.bind_eq_some_iff.mp h
              refine px_D_mono (hg1 _ _ _ hq81) ?_
              rintro _ _ ⟨rfl, rfl⟩
              show px_D sc (d + 8) 57 35 [(3, .inl (0)), (2, .inl (s 122 (s 121 4).toNat)), (0, .inr (.inr 121)), (1, .inl (x1))] [] (px_G1, q81) _
              refine px_D_st 3 (ip1 := 38) (ls1 := [(3, .inl (0)), (2, .inl (s 122 (s 121 4).toNat)), (0, .inr (.inr 121)), (1, .inl (x1))]) (st1 := [.inl (272), .inr (.inr 125)]) (h1 := (px_G1, q81)) rfl ?_
              refine px_D_call (as := [.inr (.inr 125), .inl (272)]) (rest := []) rfl rfl rfl rfl ?_
              obtain ⟨q82, hq82, h⟩ := Option.bind_eq_some_iff.mp h
              refine px_D_mono (c_Law_put (d := d + 7) hq82) ?_
              rintro _ _ ⟨rfl, rfl⟩
              show px_D sc (d + 8) 57 39 [(3, .inl (0)), (2, .inl (s 122 (s 121 4).toNat)), (0, .inr (.inr 121)), (1, .inl (x1))] [] (px_G1, q82) _
              refine px_D_st 1 (ip1 := 86) (ls1 := [(3, .inl (0)), (2, .inl (s 122 (s 121 4).toNat)), (0, .inr (.inr 121)), (1, .inl (x1))]) (st1 := []) (h1 := (px_G1, q82)) rfl ?_
              cases h
              exact px_D_vret rfl ⟨rfl, rfl⟩
          · have hc57 : ¬ ((0) = (0)) := of_decide_eq_false hc
            rw [if_neg hc57] at h
            refine px_D_st 2 (ip1 := 20) (ls1 := [(3, .inl (0)), (2, .inl (s 122 (s 121 4).toNat)), (0, .inr (.inr 121)), (1, .inl (x1))]) (st1 := [.inl (8), .inl (x1)]) (h1 := (px_G1, s)) rfl ?_
            refine px_D_icmp rfl (fun hc => ?_) (fun hc => ?_)
            · have hc83 : (x1) < (8) := of_decide_eq_true hc
              rw [if_pos hc83] at h
              refine px_D_st 2 (ip1 := 27) (ls1 := [(3, .inl (0)), (2, .inl (s 122 (s 121 4).toNat)), (0, .inr (.inr 121)), (1, .inl (x1))]) (st1 := [.inl (272), .inl (s 122 (s 121 4).toNat)]) (h1 := (px_G1, s)) rfl ?_
              refine px_D_icmp rfl (fun hc => ?_) (fun hc => ?_)
              · have hc84 : ¬ ((s 122 (s 121 4).toNat) = (272)) := of_decide_eq_true hc
                rw [if_neg hc84] at h
                refine px_D_st 2 (ip1 := 42) (ls1 := [(3, .inl (0)), (2, .inl (s 122 (s 121 4).toNat)), (0, .inr (.inr 121)), (1, .inl (x1))]) (st1 := [.inl (40), .inl (s 122 (s 121 4).toNat)]) (h1 := (px_G1, s)) rfl ?_
                refine px_D_icmp rfl (fun hc => ?_) (fun hc => ?_)
                · have hc85 : ¬ ((s 122 (s 121 4).toNat) = (40)) := of_decide_eq_true hc
                  rw [if_neg hc85] at h
                  refine px_D_st 1 (ip1 := 55) (ls1 := [(3, .inl (0)), (2, .inl (s 122 (s 121 4).toNat)), (0, .inr (.inr 121)), (1, .inl (x1))]) (st1 := [.inr (.inr 121)]) (h1 := (px_G1, s)) rfl ?_
                  refine px_D_call (as := [.inr (.inr 121)]) (rest := []) rfl rfl rfl rfl ?_
                  obtain ⟨q86, hq86, h⟩ := Option.bind_eq_some_iff.mp h
                  refine px_D_mono (c_Reader_readSum (d := d + 5) hq86) ?_
                  rintro _ _ ⟨rfl, rfl⟩
                  show px_D sc (d + 8) 57 56 [(3, .inl (0)), (2, .inl (s 122 (s 121 4).toNat)), (0, .inr (.inr 121)), (1, .inl (x1))] [] (px_G1, q86) _
                  refine px_D_st 4 (ip1 := 60) (ls1 := [(3, .inl (0)), (2, .inl (s 122 (s 121 4).toNat)), (0, .inr (.inr 121)), (1, .inl (x1))]) (st1 := [.inl (q86 121 4), .inr (.inr 122)]) (h1 := (px_G1, q86)) rfl ?_
                  by_cases hc87 : 0 ≤ (q86 121 4) ∧ (q86 121 4) < 401
                  case neg => rw [if_neg hc87] at h; cases h
                  rw [if_pos hc87] at h
                  refine px_D_iald (k := 117) (n := 401) rfl rfl hc87 ?_
                  refine px_D_st 3 (ip1 := 64) (ls1 := [(4, .inl (q86 122 (q86 121 4).toNat)), (3, .inl (0)), (2, .inl (s 122 (s 121 4).toNat)), (0, .inr (.inr 121)), (1, .inl (x1))]) (st1 := [.inl (q86 121 7)]) (h1 := (px_G1, q86)) rfl ?_
                  refine px_D_ifc rfl (fun hc => ?_) (fun hc => ?_)
                  · have hc88 : ¬ ((q86 121 7) = (0)) := of_decide_eq_true hc
                    rw [if_neg hc88] at h
                    refine px_D_st 2 (ip1 := 85) (ls1 := [(4, .inl (q86 122 (q86 121 4).toNat)), (3, .inl (0)), (2, .inl (s 122 (s 121 4).toNat)), (0, .inr (.inr 121)), (1, .inl (x1))]) (st1 := [.inl (1), .inr (.inr 121)]) (h1 := (px_G1, q86)) rfl ?_
                    refine px_D_call (as := [.inr (.inr 121), .inl (1)]) (rest := []) rfl rfl rfl rfl ?_
                    obtain ⟨q89, hq89, h⟩ := Option.bind_eq_some_iff.mp h
                    refine px_D_mono (c_Reader_fail (d := d + 7) hq89) ?_
                    rintro _ _ ⟨rfl, rfl⟩
                    show px_D sc (d + 8) 57 86 [(4, .inl (q86 122 (q86 121 4).toNat)), (3, .inl (0)), (2, .inl (s 122 (s 121 4).toNat)), (0, .inr (.inr 121)), (1, .inl (x1))] [] (px_G1, q89) _
                    cases h
                    exact px_D_vret rfl ⟨rfl, rfl⟩
                  · have hc88 : (q86 121 7) = (0) := Decidable.of_not_not (of_decide_eq_false hc)
                    rw [if_pos hc88] at h
                    refine px_D_st 2 (ip1 := 67) (ls1 := [(4, .inl (q86 122 (q86 121 4).toNat)), (3, .inl (0)), (2, .inl (s 122 (s 121 4).toNat)), (0, .inr (.inr 121)), (1, .inl (x1))]) (st1 := [.inl (60), .inl (q86 122 (q86 121 4).toNat)]) (h1 := (px_G1, q86)) rfl ?_
                    refine px_D_icmp rfl (fun hc => ?_) (fun hc => ?_)
                    · have hc90 : (q86 122 (q86 121 4).toNat) = (60) := of_decide_eq_true hc
                      rw [if_pos hc90] at h
                      refine px_D_st 1 (ip1 := 75) (ls1 := [(4, .inl (q86 122 (q86 121 4).toNat)), (3, .inl (0)), (2, .inl (s 122 (s 121 4).toNat)), (0, .inr (.inr 121)), (1, .inl (x1))]) (st1 := [.inr (.inr 121)]) (h1 := (px_G1, q86)) rfl ?_
                      refine px_D_call (as := [.inr (.inr 121)]) (rest := []) rfl rfl rfl rfl ?_
                      obtain ⟨q91, hq91, h⟩ := Option.bind_eq_some_iff.mp h
                      refine px_D_mono (c_Reader_step (d := d + 7) hq91) ?_
                      rintro _ _ ⟨rfl, rfl⟩
                      show px_D sc (d + 8) 57 76 [(4, .inl (q86 122 (q86 121 4).toNat)), (3, .inl (0)), (2, .inl (s 122 (s 121 4).toNat)), (0, .inr (.inr 121)), (1, .inl (x1))] [] (px_G1, q91) _
                      refine px_D_st 1 (ip1 := 77) (ls1 := [(4, .inl (q86 122 (q86 121 4).toNat)), (3, .inl (0)), (2, .inl (s 122 (s 121 4).toNat)), (0, .inr (.inr 121)), (1, .inl (x1))]) (st1 := [.inr (.inr 121)]) (h1 := (px_G1, q91)) rfl ?_
                      refine px_D_call (as := [.inr (.inr 121)]) (rest := []) rfl rfl rfl rfl ?_
                      obtain ⟨q92, hq92, h⟩ := Option.bind_eq_some_iff.mp h
                      refine px_D_mono (c_Reader_readSum (d := d + 5) hq92) ?_
                      rintro _ _ ⟨rfl, rfl⟩
                      show px_D sc (d + 8) 57 78 [(4, .inl (q86 122 (q86 121 4).toNat)), (3, .inl (0)), (2, .inl (s 122 (s 121 4).toNat)), (0, .inr (.inr 121)), (1, .inl (x1))] [] (px_G1, q92) _
                      refine px_D_st 3 (ip1 := 81) (ls1 := [(4, .inl (q86 122 (q86 121 4).toNat)), (3, .inl (0)), (2, .inl (s 122 (s 121 4).toNat)), (0, .inr (.inr 121)), (1, .inl (x1))]) (st1 := [.inl (q86 122 (q86 121 4).toNat), .inr (.inr 125)]) (h1 := (px_G1, q92)) rfl ?_
                      refine px_D_call (as := [.inr (.inr 125), .inl (q86 122 (q86 121 4).toNat)]) (rest := []) rfl rfl rfl rfl ?_
                      obtain ⟨q93, hq93, h⟩ := Option.bind_eq_some_iff.mp h
                      refine px_D_mono (c_Law_put (d := d + 7) hq93) ?_
                      rintro _ _ ⟨rfl, rfl⟩
                      show px_D sc (d + 8) 57 82 [(4, .inl (q86 122 (q86 121 4).toNat)), (3, .inl (0)), (2, .inl (s 122 (s 121 4).toNat)), (0, .inr (.inr 121)), (1, .inl (x1))] [] (px_G1, q93) _
                      refine px_D_st 1 (ip1 := 86) (ls1 := [(4, .inl (q86 122 (q86 121 4).toNat)), (3, .inl (0)), (2, .inl (s 122 (s 121 4).toNat)), (0, .inr (.inr 121)), (1, .inl (x1))]) (st1 := []) (h1 := (px_G1, q93)) rfl ?_
                      cases h
                      exact px_D_vret rfl ⟨rfl, rfl⟩
                    · have hc90 : ¬ ((q86 122 (q86 121 4).toNat) = (60)) := of_decide_eq_false hc
                      rw [if_neg hc90] at h
                      refine px_D_st 2 (ip1 := 70) (ls1 := [(4, .inl (q86 122 (q86 121 4).toNat)), (3, .inl (0)), (2, .inl (s 122 (s 121 4).toNat)), (0, .inr (.inr 121)), (1, .inl (x1))]) (st1 := [.inl (61), .inl (q86 122 (q86 121 4).toNat)]) (h1 := (px_G1, q86)) rfl ?_
                      refine px_D_icmp rfl (fun hc => ?_) (fun hc => ?_)
                      · have hc94 : (q86 122 (q86 121 4).toNat) = (61) := of_decide_eq_true hc
                        rw [if_pos hc94] at h
                        refine px_D_st 1 (ip1 := 75) (ls1 := [(4, .inl (q86 122 (q86 121 4).toNat)), (3, .inl (0)), (2, .inl (s 122 (s 121 4).toNat)), (0, .inr (.inr 121)), (1, .inl (x1))]) (st1 := [.inr (.inr 121)]) (h1 := (px_G1, q86)) rfl ?_
                        refine px_D_call (as := [.inr (.inr 121)]) (rest := []) rfl rfl rfl rfl ?_
                        obtain ⟨q95, hq95, h⟩ := Option.bind_eq_some_iff.mp h
                        refine px_D_mono (c_Reader_step (d := d + 7) hq95) ?_
                        rintro _ _ ⟨rfl, rfl⟩
                        show px_D sc (d + 8) 57 76 [(4, .inl (q86 122 (q86 121 4).toNat)), (3, .inl (0)), (2, .inl (s 122 (s 121 4).toNat)), (0, .inr (.inr 121)), (1, .inl (x1))] [] (px_G1, q95) _
                        refine px_D_st 1 (ip1 := 77) (ls1 := [(4, .inl (q86 122 (q86 121 4).toNat)), (3, .inl (0)), (2, .inl (s 122 (s 121 4).toNat)), (0, .inr (.inr 121)), (1, .inl (x1))]) (st1 := [.inr (.inr 121)]) (h1 := (px_G1, q95)) rfl ?_
                        refine px_D_call (as := [.inr (.inr 121)]) (rest := []) rfl rfl rfl rfl ?_
                        obtain ⟨q96, hq96, h⟩ := Option.bind_eq_some_iff.mp h
                        refine px_D_mono (c_Reader_readSum (d := d + 5) hq96) ?_
                        rintro _ _ ⟨rfl, rfl⟩
                        show px_D sc (d + 8) 57 78 [(4, .inl (q86 122 (q86 121 4).toNat)), (3, .inl (0)), (2, .inl (s 122 (s 121 4).toNat)), (0, .inr (.inr 121)), (1, .inl (x1))] [] (px_G1, q96) _
                        refine px_D_st 3 (ip1 := 81) (ls1 := [(4, .inl (q86 122 (q86 121 4).toNat)), (3, .inl (0)), (2, .inl (s 122 (s 121 4).toNat)), (0, .inr (.inr 121)), (1, .inl (x1))]) (st1 := [.inl (q86 122 (q86 121 4).toNat), .inr (.inr 125)]) (h1 := (px_G1, q96)) rfl ?_
                        refine px_D_call (as := [.inr (.inr 125), .inl (q86 122 (q86 121 4).toNat)]) (rest := []) rfl rfl rfl rfl ?_
                        obtain ⟨q97, hq97, h⟩ := Option.bind_eq_some_iff.mp h
                        refine px_D_mono (c_Law_put (d := d + 7) hq97) ?_
                        rintro _ _ ⟨rfl, rfl⟩
                        show px_D sc (d + 8) 57 82 [(4, .inl (q86 122 (q86 121 4).toNat)), (3, .inl (0)), (2, .inl (s 122 (s 121 4).toNat)), (0, .inr (.inr 121)), (1, .inl (x1))] [] (px_G1, q97) _
                        refine px_D_st 1 (ip1 := 86) (ls1 := [(4, .inl (q86 122 (q86 121 4).toNat)), (3, .inl (0)), (2, .inl (s 122 (s 121 4).toNat)), (0, .inr (.inr 121)), (1, .inl (x1))]) (st1 := []) (h1 := (px_G1, q97)) rfl ?_
                        cases h
                        exact px_D_vret rfl ⟨rfl, rfl⟩
                      · have hc94 : ¬ ((q86 122 (q86 121 4).toNat) = (61)) := of_decide_eq_false hc
                        rw [if_neg hc94] at h
                        refine px_D_st 2 (ip1 := 73) (ls1 := [(4, .inl (q86 122 (q86 121 4).toNat)), (3, .inl (0)), (2, .inl (s 122 (s 121 4).toNat)), (0, .inr (.inr 121)), (1, .inl (x1))]) (st1 := [.inl (62), .inl (q86 122 (q86 121 4).toNat)]) (h1 := (px_G1, q86)) rfl ?_
                        refine px_D_icmp rfl (fun hc => ?_) (fun hc => ?_)
                        · have hc98 : ¬ ((q86 122 (q86 121 4).toNat) = (62)) := of_decide_eq_true hc
                          rw [if_neg hc98] at h
                          refine px_D_st 2 (ip1 := 85) (ls1 := [(4, .inl (q86 122 (q86 121 4).toNat)), (3, .inl (0)), (2, .inl (s 122 (s 121 4).toNat)), (0, .inr (.inr 121)), (1, .inl (x1))]) (st1 := [.inl (1), .inr (.inr 121)]) (h1 := (px_G1, q86)) rfl ?_
                          refine px_D_call (as := [.inr (.inr 121), .inl (1)]) (rest := []) rfl rfl rfl rfl ?_
                          obtain ⟨q99, hq99, h⟩ := Option.bind_eq_some_iff.mp h
                          refine px_D_mono (c_Reader_fail (d := d + 7) hq99) ?_
                          rintro _ _ ⟨rfl, rfl⟩
                          show px_D sc (d + 8) 57 86 [(4, .inl (q86 122 (q86 121 4).toNat)), (3, .inl (0)), (2, .inl (s 122 (s 121 4).toNat)), (0, .inr (.inr 121)), (1, .inl (x1))] [] (px_G1, q99) _
                          cases h
                          exact px_D_vret rfl ⟨rfl, rfl⟩
                        · have hc98 : (q86 122 (q86 121 4).toNat) = (62) := Decidable.of_not_not (of_decide_eq_false hc)
                          rw [if_pos hc98] at h
                          refine px_D_st 1 (ip1 := 75) (ls1 := [(4, .inl (q86 122 (q86 121 4).toNat)), (3, .inl (0)), (2, .inl (s 122 (s 121 4).toNat)), (0, .inr (.inr 121)), (1, .inl (x1))]) (st1 := [.inr (.inr 121)]) (h1 := (px_G1, q86)) rfl ?_
                          refine px_D_call (as := [.inr (.inr 121)]) (rest := []) rfl rfl rfl rfl ?_
                          obtain ⟨q100, hq100, h⟩ := Option.bind_eq_some_iff.mp h
                          refine px_D_mono (c_Reader_step (d := d + 7) hq100) ?_
                          rintro _ _ ⟨rfl, rfl⟩
                          show px_D sc (d + 8) 57 76 [(4, .inl (q86 122 (q86 121 4).toNat)), (3, .inl (0)), (2, .inl (s 122 (s 121 4).toNat)), (0, .inr (.inr 121)), (1, .inl (x1))] [] (px_G1, q100) _
                          refine px_D_st 1 (ip1 := 77) (ls1 := [(4, .inl (q86 122 (q86 121 4).toNat)), (3, .inl (0)), (2, .inl (s 122 (s 121 4).toNat)), (0, .inr (.inr 121)), (1, .inl (x1))]) (st1 := [.inr (.inr 121)]) (h1 := (px_G1, q100)) rfl ?_
                          refine px_D_call (as := [.inr (.inr 121)]) (rest := []) rfl rfl rfl rfl ?_
                          obtain ⟨q101, hq101, h⟩ := Option.bind_eq_some_iff.mp h
                          refine px_D_mono (c_Reader_readSum (d := d + 5) hq101) ?_
                          rintro _ _ ⟨rfl, rfl⟩
                          show px_D sc (d + 8) 57 78 [(4, .inl (q86 122 (q86 121 4).toNat)), (3, .inl (0)), (2, .inl (s 122 (s 121 4).toNat)), (0, .inr (.inr 121)), (1, .inl (x1))] [] (px_G1, q101) _
                          refine px_D_st 3 (ip1 := 81) (ls1 := [(4, .inl (q86 122 (q86 121 4).toNat)), (3, .inl (0)), (2, .inl (s 122 (s 121 4).toNat)), (0, .inr (.inr 121)), (1, .inl (x1))]) (st1 := [.inl (q86 122 (q86 121 4).toNat), .inr (.inr 125)]) (h1 := (px_G1, q101)) rfl ?_
                          refine px_D_call (as := [.inr (.inr 125), .inl (q86 122 (q86 121 4).toNat)]) (rest := []) rfl rfl rfl rfl ?_
                          obtain ⟨q102, hq102, h⟩ := Option.bind_eq_some_iff.mp h
                          refine px_D_mono (c_Law_put (d := d + 7) hq102) ?_
                          rintro _ _ ⟨rfl, rfl⟩
                          show px_D sc (d + 8) 57 82 [(4, .inl (q86 122 (q86 121 4).toNat)), (3, .inl (0)), (2, .inl (s 122 (s 121 4).toNat)), (0, .inr (.inr 121)), (1, .inl (x1))] [] (px_G1, q102) _
                          refine px_D_st 1 (ip1 := 86) (ls1 := [(4, .inl (q86 122 (q86 121 4).toNat)), (3, .inl (0)), (2, .inl (s 122 (s 121 4).toNat)), (0, .inr (.inr 121)), (1, .inl (x1))]) (st1 := []) (h1 := (px_G1, q102)) rfl ?_
                          cases h
                          exact px_D_vret rfl ⟨rfl, rfl⟩
                · have hc85 : (s 122 (s 121 4).toNat) = (40) := Decidable.of_not_not (of_decide_eq_false hc)
                  rw [if_pos hc85] at h
                  refine px_D_st 1 (ip1 := 44) (ls1 := [(3, .inl (0)), (2, .inl (s 122 (s 121 4).toNat)), (0, .inr (.inr 121)), (1, .inl (x1))]) (st1 := [.inr (.inr 121)]) (h1 := (px_G1, s)) rfl ?_
                  refine px_D_call (as := [.inr (.inr 121)]) (rest := []) rfl rfl rfl rfl ?_
                  obtain ⟨q103, hq103, h⟩ := Option.bind_eq_some_iff.mp h
                  refine px_D_mono (c_Reader_step (d := d + 7) hq103) ?_
                  rintro _ _ ⟨rfl, rfl⟩
                  show px_D sc (d + 8) 57 45 [(3, .inl (0)), (2, .inl (s 122 (s 121 4).toNat)), (0, .inr (.inr 121)), (1, .inl (x1))] [] (px_G1, q103) _
                  refine px_D_st 4 (ip1 := 49) (ls1 := [(3, .inl (0)), (2, .inl (s 122 (s 121 4).toNat)), (0, .inr (.inr 121)), (1, .inl (x1))]) (st1 := [.inl (px_wr (x1 + 1)), .inr (.inr 121)]) (h1 := (px_G1, q103)) rfl ?_
                  refine px_D_call (as := [.inr (.inr 121), .inl (px_wr (x1 + 1))]) (rest := []) rfl rfl rfl rfl ?_
                  obtain ⟨q104, hq104, h⟩ := Option.bind_eq_some_iff.mp h
                  refine px_D_mono (hg0 _ _ _ hq104) ?_
                  rintro _ _ ⟨rfl, rfl⟩
                  show px_D sc (d + 8) 57 50 [(3, .inl (0)), (2, .inl (s 122 (s 121 4).toNat)), (0, .inr (.inr 121)), (1, .inl (x1))] [] (px_G1, q104) _
                  refine px_D_st 2 (ip1 := 52) (ls1 := [(3, .inl (0)), (2, .inl (s 122 (s 121 4).toNat)), (0, .inr (.inr 121)), (1, .inl (x1))]) (st1 := [.inl (41), .inr (.inr 121)]) (h1 := (px_G1, q104)) rfl ?_
                  refine px_D_call (as := [.inr (.inr 121), .inl (41)]) (rest := []) rfl rfl rfl rfl ?_
                  obtain ⟨q105, hq105, h⟩ := Option.bind_eq_some_iff.mp h
                  refine px_D_mono (c_Reader_expect (d := d + 6) hq105) ?_
                  rintro _ _ ⟨rfl, rfl⟩
                  show px_D sc (d + 8) 57 53 [(3, .inl (0)), (2, .inl (s 122 (s 121 4).toNat)), (0, .inr (.inr 121)), (1, .inl (x1))] [] (px_G1, q105) _
                  refine px_D_st 1 (ip1 := 86) (ls1 := [(3, .inl (0)), (2, .inl (s 122 (s 121 4).toNat)), (0, .inr (.inr 121)), (1, .inl (x1))]) (st1 := []) (h1 := (px_G1, q105)) rfl ?_
                  cases h
                  exact px_D_vret rfl ⟨rfl, rfl⟩
              · have hc84 : (s 122 (s 121 4).toNat) = (272) := Decidable.of_not_not (of_decide_eq_false hc)
                rw [if_pos hc84] at h
                refine px_D_st 1 (ip1 := 29) (ls1 := [(3, .inl (0)), (2, .inl (s 122 (s 121 4).toNat)), (0, .inr (.inr 121)), (1, .inl (x1))]) (st1 := [.inr (.inr 121)]) (h1 := (px_G1, s)) rfl ?_
                refine px_D_call (as := [.inr (.inr 121)]) (rest := []) rfl rfl rfl rfl ?_
                obtain ⟨q106, hq106, h⟩ := Option.bind_eq_some_iff.mp h
                refine px_D_mono (c_Reader_step (d := d + 7) hq106) ?_
                rintro _ _ ⟨rfl, rfl⟩
                show px_D sc (d + 8) 57 30 [(3, .inl (0)), (2, .inl (s 122 (s 121 4).toNat)), (0, .inr (.inr 121)), (1, .inl (x1))] [] (px_G1, q106) _
                refine px_D_st 4 (ip1 := 34) (ls1 := [(3, .inl (0)), (2, .inl (s 122 (s 121 4).toNat)), (0, .inr (.inr 121)), (1, .inl (x1))]) (st1 := [.inl (px_wr (x1 + 1)), .inr (.inr 121)]) (h1 := (px_G1, q106)) rfl ?_
                refine px_D_call (as := [.inr (.inr 121), .inl (px_wr (x1 + 1))]) (rest := []) rfl rfl rfl rfl ?_
                obtain ⟨q107, hq107, h⟩ := Option.bind_eq_some_iff.mp h
                refine px_D_mono (hg1 _ _ _ hq107) ?_
                rintro _ _ ⟨rfl, rfl⟩
                show px_D sc (d + 8) 57 35 [(3, .inl (0)), (2, .inl (s 122 (s 121 4).toNat)), (0, .inr (.inr 121)), (1, .inl (x1))] [] (px_G1, q107) _
                refine px_D_st 3 (ip1 := 38) (ls1 := [(3, .inl (0)), (2, .inl (s 122 (s 121 4).toNat)), (0, .inr (.inr 121)), (1, .inl (x1))]) (st1 := [.inl (272), .inr (.inr 125)]) (h1 := (px_G1, q107)) rfl ?_
                refine px_D_call (as := [.inr (.inr 125), .inl (272)]) (rest := []) rfl rfl rfl rfl ?_
                obtain ⟨q108, hq108, h⟩ := Option.bind_eq_some_iff.mp h
                refine px_D_mono (c_Law_put (d := d + 7) hq108) ?_
                rintro _ _ ⟨rfl, rfl⟩
                show px_D sc (d + 8) 57 39 [(3, .inl (0)), (2, .inl (s 122 (s 121 4).toNat)), (0, .inr (.inr 121)), (1, .inl (x1))] [] (px_G1, q108) _
                refine px_D_st 1 (ip1 := 86) (ls1 := [(3, .inl (0)), (2, .inl (s 122 (s 121 4).toNat)), (0, .inr (.inr 121)), (1, .inl (x1))]) (st1 := []) (h1 := (px_G1, q108)) rfl ?_
                cases h
                exact px_D_vret rfl ⟨rfl, rfl⟩
            · have hc83 : ¬ ((x1) < (8)) := of_decide_eq_false hc
              rw [if_neg hc83] at h
              refine px_D_st 2 (ip1 := 23) (ls1 := [(3, .inl (0)), (2, .inl (s 122 (s 121 4).toNat)), (0, .inr (.inr 121)), (1, .inl (x1))]) (st1 := [.inl (3), .inr (.inr 121)]) (h1 := (px_G1, s)) rfl ?_
              refine px_D_call (as := [.inr (.inr 121), .inl (3)]) (rest := []) rfl rfl rfl rfl ?_
              obtain ⟨q109, hq109, h⟩ := Option.bind_eq_some_iff.mp h
              refine px_D_mono (c_Reader_fail (d := d + 7) hq109) ?_
              rintro _ _ ⟨rfl, rfl⟩
              show px_D sc (d + 8) 57 24 [(3, .inl (0)), (2, .inl (s 122 (s 121 4).toNat)), (0, .inr (.inr 121)), (1, .inl (x1))] [] (px_G1, q109) _
              refine px_D_st 1 (ip1 := 86) (ls1 := [(3, .inl (0)), (2, .inl (s 122 (s 121 4).toNat)), (0, .inr (.inr 121)), (1, .inl (x1))]) (st1 := []) (h1 := (px_G1, q109)) rfl ?_
              cases h
              exact px_D_vret rfl ⟨rfl, rfl⟩
        · have hc56 : (s 122 (s 121 4).toNat) = (40) := Decidable.of_not_not (of_decide_eq_false hc)
          rw [if_pos hc56] at h
          refine px_D_st 4 (ip1 := 17) (ls1 := [(3, .inl (1)), (2, .inl (s 122 (s 121 4).toNat)), (0, .inr (.inr 121)), (1, .inl (x1))]) (st1 := [.inl (1)]) (h1 := (px_G1, s)) rfl ?_
          refine px_D_ifc rfl (fun hc => ?_) (fun hc => ?_)
          · have hc110 : (1) = (0) := of_decide_eq_true hc
            rw [if_pos hc110] at h
            refine px_D_st 2 (ip1 := 27) (ls1 := [(3, .inl (1)), (2, .inl (s 122 (s 121 4).toNat)), (0, .inr (.inr 121)), (1, .inl (x1))]) (st1 := [.inl (272), .inl (s 122 (s 121 4).toNat)]) (h1 := (px_G1, s)) rfl ?_
            refine px_D_icmp rfl (fun hc => ?_) (fun hc => ?_)
            · have hc111 : ¬ ((s 122 (s 121 4).toNat) = (272)) := of_decide_eq_true hc
              rw [if_neg hc111] at h
              refine px_D_st 2 (ip1 := 42) (ls1 := [(3, .inl (1)), (2, .inl (s 122 (s 121 4).toNat)), (0, .inr (.inr 121)), (1, .inl (x1))]) (st1 := [.inl (40), .inl (s 122 (s 121 4).toNat)]) (h1 := (px_G1, s)) rfl ?_
              refine px_D_icmp rfl (fun hc => ?_) (fun hc => ?_)
              · have hc112 : ¬ ((s 122 (s 121 4).toNat) = (40)) := of_decide_eq_true hc
                rw [if_neg hc112] at h
                refine px_D_st 1 (ip1 := 55) (ls1 := [(3, .inl (1)), (2, .inl (s 122 (s 121 4).toNat)), (0, .inr (.inr 121)), (1, .inl (x1))]) (st1 := [.inr (.inr 121)]) (h1 := (px_G1, s)) rfl ?_
                refine px_D_call (as := [.inr (.inr 121)]) (rest := []) rfl rfl rfl rfl ?_
                obtain ⟨q113, hq113, h⟩ := Option.bind_eq_some_iff.mp h
                refine px_D_mono (c_Reader_readSum (d := d + 5) hq113) ?_
                rintro _ _ ⟨rfl, rfl⟩
                show px_D sc (d + 8) 57 56 [(3, .inl (1)), (2, .inl (s 122 (s 121 4).toNat)), (0, .inr (.inr 121)), (1, .inl (x1))] [] (px_G1, q113) _
                refine px_D_st 4 (ip1 := 60) (ls1 := [(3, .inl (1)), (2, .inl (s 122 (s 121 4).toNat)), (0, .inr (.inr 121)), (1, .inl (x1))]) (st1 := [.inl (q113 121 4), .inr (.inr 122)]) (h1 := (px_G1, q113)) rfl ?_
                by_cases hc114 : 0 ≤ (q113 121 4) ∧ (q113 121 4) < 401
                case neg => rw [if_neg hc114] at h; cases h
                rw [if_pos hc114] at h
                refine px_D_iald (k := 117) (n := 401) rfl rfl hc114 ?_
                refine px_D_st 3 (ip1 := 64) (ls1 := [(4, .inl (q113 122 (q113 121 4).toNat)), (3, .inl (1)), (2, .inl (s 122 (s 121 4).toNat)), (0, .inr (.inr 121)), (1, .inl (x1))]) (st1 := [.inl (q113 121 7)]) (h1 := (px_G1, q113)) rfl ?_
                refine px_D_ifc rfl (fun hc => ?_) (fun hc => ?_)
                · have hc115 : ¬ ((q113 121 7) = (0)) := of_decide_eq_true hc
                  rw [if_neg hc115] at h
                  refine px_D_st 2 (ip1 := 85) (ls1 := [(4, .inl (q113 122 (q113 121 4).toNat)), (3, .inl (1)), (2, .inl (s 122 (s 121 4).toNat)), (0, .inr (.inr 121)), (1, .inl (x1))]) (st1 := [.inl (1), .inr (.inr 121)]) (h1 := (px_G1, q113)) rfl ?_
                  refine px_D_call (as := [.inr (.inr 121), .inl (1)]) (rest := []) rfl rfl rfl rfl ?_
                  obtain ⟨q116, hq116, h⟩ := Option.bind_eq_some_iff.mp h
                  refine px_D_mono (c_Reader_fail (d := d + 7) hq116) ?_
                  rintro _ _ ⟨rfl, rfl⟩
                  show px_D sc (d + 8) 57 86 [(4, .inl (q113 122 (q113 121 4).toNat)), (3, .inl (1)), (2, .inl (s 122 (s 121 4).toNat)), (0, .inr (.inr 121)), (1, .inl (x1))] [] (px_G1, q116) _
                  cases h
                  exact px_D_vret rfl ⟨rfl, rfl⟩
                · have hc115 : (q113 121 7) = (0) := Decidable.of_not_not (of_decide_eq_false hc)
                  rw [if_pos hc115] at h
                  refine px_D_st 2 (ip1 := 67) (ls1 := [(4, .inl (q113 122 (q113 121 4).toNat)), (3, .inl (1)), (2, .inl (s 122 (s 121 4).toNat)), (0, .inr (.inr 121)), (1, .inl (x1))]) (st1 := [.inl (60), .inl (q113 122 (q113 121 4).toNat)]) (h1 := (px_G1, q113)) rfl ?_
                  refine px_D_icmp rfl (fun hc => ?_) (fun hc => ?_)
                  · have hc117 : (q113 122 (q113 121 4).toNat) = (60) := of_decide_eq_true hc
                    rw [if_pos hc117] at h
                    refine px_D_st 1 (ip1 := 75) (ls1 := [(4, .inl (q113 122 (q113 121 4).toNat)), (3, .inl (1)), (2, .inl (s 122 (s 121 4).toNat)), (0, .inr (.inr 121)), (1, .inl (x1))]) (st1 := [.inr (.inr 121)]) (h1 := (px_G1, q113)) rfl ?_
                    refine px_D_call (as := [.inr (.inr 121)]) (rest := []) rfl rfl rfl rfl ?_
                    obtain ⟨q118, hq118, h⟩ := Option.bind_eq_some_iff.mp h
                    refine px_D_mono (c_Reader_step (d := d + 7) hq118) ?_
                    rintro _ _ ⟨rfl, rfl⟩
                    show px_D sc (d + 8) 57 76 [(4, .inl (q113 122 (q113 121 4).toNat)), (3, .inl (1)), (2, .inl (s 122 (s 121 4).toNat)), (0, .inr (.inr 121)), (1, .inl (x1))] [] (px_G1, q118) _
                    refine px_D_st 1 (ip1 := 77) (ls1 := [(4, .inl (q113 122 (q113 121 4).toNat)), (3, .inl (1)), (2, .inl (s 122 (s 121 4).toNat)), (0, .inr (.inr 121)), (1, .inl (x1))]) (st1 := [.inr (.inr 121)]) (h1 := (px_G1, q118)) rfl ?_
                    refine px_D_call (as := [.inr (.inr 121)]) (rest := []) rfl rfl rfl rfl ?_
                    obtain ⟨q119, hq119, h⟩ := Option.bind_eq_some_iff.mp h
                    refine px_D_mono (c_Reader_readSum (d := d + 5) hq119) ?_
                    rintro _ _ ⟨rfl, rfl⟩
                    show px_D sc (d + 8) 57 78 [(4, .inl (q113 122 (q113 121 4).toNat)), (3, .inl (1)), (2, .inl (s 122 (s 121 4).toNat)), (0, .inr (.inr 121)), (1, .inl (x1))] [] (px_G1, q119) _
                    refine px_D_st 3 (ip1 := 81) (ls1 := [(4, .inl (q113 122 (q113 121 4).toNat)), (3, .inl (1)), (2, .inl (s 122 (s 121 4).toNat)), (0, .inr (.inr 121)), (1, .inl (x1))]) (st1 := [.inl (q113 122 (q113 121 4).toNat), .inr (.inr 125)]) (h1 := (px_G1, q119)) rfl ?_
                    refine px_D_call (as := [.inr (.inr 125), .inl (q113 122 (q113 121 4).toNat)]) (rest := []) rfl rfl rfl rfl ?_
                    obtain ⟨q120, hq120, h⟩ := Option.bind_eq_some_iff.mp h
                    refine px_D_mono (c_Law_put (d := d + 7) hq120) ?_
                    rintro _ _ ⟨rfl, rfl⟩
                    show px_D sc (d + 8) 57 82 [(4, .inl (q113 122 (q113 121 4).toNat)), (3, .inl (1)), (2, .inl (s 122 (s 121 4).toNat)), (0, .inr (.inr 121)), (1, .inl (x1))] [] (px_G1, q120) _
                    refine px_D_st 1 (ip1 := 86) (ls1 := [(4, .inl (q113 122 (q113 121 4).toNat)), (3, .inl (1)), (2, .inl (s 122 (s 121 4).toNat)), (0, .inr (.inr 121)), (1, .inl (x1))]) (st1 := []) (h1 := (px_G1, q120)) rfl ?_
                    cases h
                    exact px_D_vret rfl ⟨rfl, rfl⟩
                  · have hc117 : ¬ ((q113 122 (q113 121 4).toNat) = (60)) := of_decide_eq_false hc
                    rw [if_neg hc117] at h
                    refine px_D_st 2 (ip1 := 70) (ls1 := [(4, .inl (q113 122 (q113 121 4).toNat)), (3, .inl (1)), (2, .inl (s 122 (s 121 4).toNat)), (0, .inr (.inr 121)), (1, .inl (x1))]) (st1 := [.inl (61), .inl (q113 122 (q113 121 4).toNat)]) (h1 := (px_G1, q113)) rfl ?_
                    refine px_D_icmp rfl (fun hc => ?_) (fun hc => ?_)
                    · have hc121 : (q113 122 (q113 121 4).toNat) = (61) := of_decide_eq_true hc
                      rw [if_pos hc121] at h
                      refine px_D_st 1 (ip1 := 75) (ls1 := [(4, .inl (q113 122 (q113 121 4).toNat)), (3, .inl (1)), (2, .inl (s 122 (s 121 4).toNat)), (0, .inr (.inr 121)), (1, .inl (x1))]) (st1 := [.inr (.inr 121)]) (h1 := (px_G1, q113)) rfl ?_
                      refine px_D_call (as := [.inr (.inr 121)]) (rest := []) rfl rfl rfl rfl ?_
                      obtain ⟨q122, hq122, h⟩ := Option.bind_eq_some_iff.mp h
                      refine px_D_mono (c_Reader_step (d := d + 7) hq122) ?_
                      rintro _ _ ⟨rfl, rfl⟩
                      show px_D sc (d + 8) 57 76 [(4, .inl (q113 122 (q113 121 4).toNat)), (3, .inl (1)), (2, .inl (s 122 (s 121 4).toNat)), (0, .inr (.inr 121)), (1, .inl (x1))] [] (px_G1, q122) _
                      refine px_D_st 1 (ip1 := 77) (ls1 := [(4, .inl (q113 122 (q113 121 4).toNat)), (3, .inl (1)), (2, .inl (s 122 (s 121 4).toNat)), (0, .inr (.inr 121)), (1, .inl (x1))]) (st1 := [.inr (.inr 121)]) (h1 := (px_G1, q122)) rfl ?_
                      refine px_D_call (as := [.inr (.inr 121)]) (rest := []) rfl rfl rfl rfl ?_
                      obtain ⟨q123, hq123, h⟩ := Option.bind_eq_some_iff.mp h
                      refine px_D_mono (c_Reader_readSum (d := d + 5) hq123) ?_
                      rintro _ _ ⟨rfl, rfl⟩
                      show px_D sc (d + 8) 57 78 [(4, .inl (q113 122 (q113 121 4).toNat)), (3, .inl (1)), (2, .inl (s 122 (s 121 4).toNat)), (0, .inr (.inr 121)), (1, .inl (x1))] [] (px_G1, q123) _
                      refine px_D_st 3 (ip1 := 81) (ls1 := [(4, .inl (q113 122 (q113 121 4).toNat)), (3, .inl (1)), (2, .inl (s 122 (s 121 4).toNat)), (0, .inr (.inr 121)), (1, .inl (x1))]) (st1 := [.inl (q113 122 (q113 121 4).toNat), .inr (.inr 125)]) (h1 := (px_G1, q123)) rfl ?_
                      refine px_D_call (as := [.inr (.inr 125), .inl (q113 122 (q113 121 4).toNat)]) (rest := []) rfl rfl rfl rfl ?_
                      obtain ⟨q124, hq124, h⟩ := Option.bind_eq_some_iff.mp h
                      refine px_D_mono (c_Law_put (d := d + 7) hq124) ?_
                      rintro _ _ ⟨rfl, rfl⟩
                      show px_D sc (d + 8) 57 82 [(4, .inl (q113 122 (q113 121 4).toNat)), (3, .inl (1)), (2, .inl (s 122 (s 121 4).toNat)), (0, .inr (.inr 121)), (1, .inl (x1))] [] (px_G1, q124) _
                      refine px_D_st 1 (ip1 := 86) (ls1 := [(4, .inl (q113 122 (q113 121 4).toNat)), (3, .inl (1)), (2, .inl (s 122 (s 121 4).toNat)), (0, .inr (.inr 121)), (1, .inl (x1))]) (st1 := []) (h1 := (px_G1, q124)) rfl ?_
                      cases h
                      exact px_D_vret rfl ⟨rfl, rfl⟩
                    · have hc121 : ¬ ((q113 122 (q113 121 4).toNat) = (61)) := of_decide_eq_false hc
                      rw [if_neg hc121] at h
                      refine px_D_st 2 (ip1 := 73) (ls1 := [(4, .inl (q113 122 (q113 121 4).toNat)), (3, .inl (1)), (2, .inl (s 122 (s 121 4).toNat)), (0, .inr (.inr 121)), (1, .inl (x1))]) (st1 := [.inl (62), .inl (q113 122 (q113 121 4).toNat)]) (h1 := (px_G1, q113)) rfl ?_
                      refine px_D_icmp rfl (fun hc => ?_) (fun hc => ?_)
                      · have hc125 : ¬ ((q113 122 (q113 121 4).toNat) = (62)) := of_decide_eq_true hc
                        rw [if_neg hc125] at h
                        refine px_D_st 2 (ip1 := 85) (ls1 := [(4, .inl (q113 122 (q113 121 4).toNat)), (3, .inl (1)), (2, .inl (s 122 (s 121 4).toNat)), (0, .inr (.inr 121)), (1, .inl (x1))]) (st1 := [.inl (1), .inr (.inr 121)]) (h1 := (px_G1, q113)) rfl ?_
                        refine px_D_call (as := [.inr (.inr 121), .inl (1)]) (rest := []) rfl rfl rfl rfl ?_
                        obtain ⟨q126, hq126, h⟩ := Option.bind_eq_some_iff.mp h
                        refine px_D_mono (c_Reader_fail (d := d + 7) hq126) ?_
                        rintro _ _ ⟨rfl, rfl⟩
                        show px_D sc (d + 8) 57 86 [(4, .inl (q113 122 (q113 121 4).toNat)), (3, .inl (1)), (2, .inl (s 122 (s 121 4).toNat)), (0, .inr (.inr 121)), (1, .inl (x1))] [] (px_G1, q126) _
                        cases h
                        exact px_D_vret rfl ⟨rfl, rfl⟩
                      · have hc125 : (q113 122 (q113 121 4).toNat) = (62) := Decidable.of_not_not (of_decide_eq_false hc)
                        rw [if_pos hc125] at h
                        refine px_D_st 1 (ip1 := 75) (ls1 := [(4, .inl (q113 122 (q113 121 4).toNat)), (3, .inl (1)), (2, .inl (s 122 (s 121 4).toNat)), (0, .inr (.inr 121)), (1, .inl (x1))]) (st1 := [.inr (.inr 121)]) (h1 := (px_G1, q113)) rfl ?_
                        refine px_D_call (as := [.inr (.inr 121)]) (rest := []) rfl rfl rfl rfl ?_
                        obtain ⟨q127, hq127, h⟩ := Option.bind_eq_some_iff.mp h
                        refine px_D_mono (c_Reader_step (d := d + 7) hq127) ?_
                        rintro _ _ ⟨rfl, rfl⟩
                        show px_D sc (d + 8) 57 76 [(4, .inl (q113 122 (q113 121 4).toNat)), (3, .inl (1)), (2, .inl (s 122 (s 121 4).toNat)), (0, .inr (.inr 121)), (1, .inl (x1))] [] (px_G1, q127) _
                        refine px_D_st 1 (ip1 := 77) (ls1 := [(4, .inl (q113 122 (q113 121 4).toNat)), (3, .inl (1)), (2, .inl (s 122 (s 121 4).toNat)), (0, .inr (.inr 121)), (1, .inl (x1))]) (st1 := [.inr (.inr 121)]) (h1 := (px_G1, q127)) rfl ?_
                        refine px_D_call (as := [.inr (.inr 121)]) (rest := []) rfl rfl rfl rfl ?_
                        obtain ⟨q128, hq128, h⟩ := Option.bind_eq_some_iff.mp h
                        refine px_D_mono (c_Reader_readSum (d := d + 5) hq128) ?_
                        rintro _ _ ⟨rfl, rfl⟩
                        show px_D sc (d + 8) 57 78 [(4, .inl (q113 122 (q113 121 4).toNat)), (3, .inl (1)), (2, .inl (s 122 (s 121 4).toNat)), (0, .inr (.inr 121)), (1, .inl (x1))] [] (px_G1, q128) _
                        refine px_D_st 3 (ip1 := 81) (ls1 := [(4, .inl (q113 122 (q113 121 4).toNat)), (3, .inl (1)), (2, .inl (s 122 (s 121 4).toNat)), (0, .inr (.inr 121)), (1, .inl (x1))]) (st1 := [.inl (q113 122 (q113 121 4).toNat), .inr (.inr 125)]) (h1 := (px_G1, q128)) rfl ?_
                        refine px_D_call (as := [.inr (.inr 125), .inl (q113 122 (q113 121 4).toNat)]) (rest := []) rfl rfl rfl rfl ?_
                        obtain ⟨q129, hq129, h⟩ := Option.bind_eq_some_iff.mp h
                        refine px_D_mono (c_Law_put (d := d + 7) hq129) ?_
                        rintro _ _ ⟨rfl, rfl⟩
                        show px_D sc (d + 8) 57 82 [(4, .inl (q113 122 (q113 121 4).toNat)), (3, .inl (1)), (2, .inl (s 122 (s 121 4).toNat)), (0, .inr (.inr 121)), (1, .inl (x1))] [] (px_G1, q129) _
                        refine px_D_st 1 (ip1 := 86) (ls1 := [(4, .inl (q113 122 (q113 121 4).toNat)), (3, .inl (1)), (2, .inl (s 122 (s 121 4).toNat)), (0, .inr (.inr 121)), (1, .inl (x1))]) (st1 := []) (h1 := (px_G1, q129)) rfl ?_
                        cases h
                        exact px_D_vret rfl ⟨rfl, rfl⟩
              · have hc112 : (s 122 (s 121 4).toNat) = (40) := Decidable.of_not_not (of_decide_eq_false hc)
                rw [if_pos hc112] at h
                refine px_D_st 1 (ip1 := 44) (ls1 := [(3, .inl (1)), (2, .inl (s 122 (s 121 4).toNat)), (0, .inr (.inr 121)), (1, .inl (x1))]) (st1 := [.inr (.inr 121)]) (h1 := (px_G1, s)) rfl ?_
                refine px_D_call (as := [.inr (.inr 121)]) (rest := []) rfl rfl rfl rfl ?_
                obtain ⟨q130, hq130, h⟩ := Option.bind_eq_some_iff.mp h
                refine px_D_mono (c_Reader_step (d := d + 7) hq130) ?_
                rintro _ _ ⟨rfl, rfl⟩
                show px_D sc (d + 8) 57 45 [(3, .inl (1)), (2, .inl (s 122 (s 121 4).toNat)), (0, .inr (.inr 121)), (1, .inl (x1))] [] (px_G1, q130) _
                refine px_D_st 4 (ip1 := 49) (ls1 := [(3, .inl (1)), (2, .inl (s 122 (s 121 4).toNat)), (0, .inr (.inr 121)), (1, .inl (x1))]) (st1 := [.inl (px_wr (x1 + 1)), .inr (.inr 121)]) (h1 := (px_G1, q130)) rfl ?_
                refine px_D_call (as := [.inr (.inr 121), .inl (px_wr (x1 + 1))]) (rest := []) rfl rfl rfl rfl ?_
                obtain ⟨q131, hq131, h⟩ := Option.bind_eq_some_iff.mp h
                refine px_D_mono (hg0 _ _ _ hq131) ?_
                rintro _ _ ⟨rfl, rfl⟩
                show px_D sc (d + 8) 57 50 [(3, .inl (1)), (2, .inl (s 122 (s 121 4).toNat)), (0, .inr (.inr 121)), (1, .inl (x1))] [] (px_G1, q131) _
                refine px_D_st 2 (ip1 := 52) (ls1 := [(3, .inl (1)), (2, .inl (s 122 (s 121 4).toNat)), (0, .inr (.inr 121)), (1, .inl (x1))]) (st1 := [.inl (41), .inr (.inr 121)]) (h1 := (px_G1, q131)) rfl ?_
                refine px_D_call (as := [.inr (.inr 121), .inl (41)]) (rest := []) rfl rfl rfl rfl ?_
                obtain ⟨q132, hq132, h⟩ := Option.bind_eq_some_iff.mp h
                refine px_D_mono (c_Reader_expect (d := d + 6) hq132) ?_
                rintro _ _ ⟨rfl, rfl⟩
                show px_D sc (d + 8) 57 53 [(3, .inl (1)), (2, .inl (s 122 (s 121 4).toNat)), (0, .inr (.inr 121)), (1, .inl (x1))] [] (px_G1, q132) _
                refine px_D_st 1 (ip1 := 86) (ls1 := [(3, .inl (1)), (2, .inl (s 122 (s 121 4).toNat)), (0, .inr (.inr 121)), (1, .inl (x1))]) (st1 := []) (h1 := (px_G1, q132)) rfl ?_
                cases h
                exact px_D_vret rfl ⟨rfl, rfl⟩
            · have hc111 : (s 122 (s 121 4).toNat) = (272) := Decidable.of_not_not (of_decide_eq_false hc)
              rw [if_pos hc111] at h
              refine px_D_st 1 (ip1 := 29) (ls1 := [(3, .inl (1)), (2, .inl (s 122 (s 121 4).toNat)), (0, .inr (.inr 121)), (1, .inl (x1))]) (st1 := [.inr (.inr 121)]) (h1 := (px_G1, s)) rfl ?_
              refine px_D_call (as := [.inr (.inr 121)]) (rest := []) rfl rfl rfl rfl ?_
              obtain ⟨q133, hq133, h⟩ := Option.bind_eq_some_iff.mp h
              refine px_D_mono (c_Reader_step (d := d + 7) hq133) ?_
              rintro _ _ ⟨rfl, rfl⟩
              show px_D sc (d + 8) 57 30 [(3, .inl (1)), (2, .inl (s 122 (s 121 4).toNat)), (0, .inr (.inr 121)), (1, .inl (x1))] [] (px_G1, q133) _
              refine px_D_st 4 (ip1 := 34) (ls1 := [(3, .inl (1)), (2, .inl (s 122 (s 121 4).toNat)), (0, .inr (.inr 121)), (1, .inl (x1))]) (st1 := [.inl (px_wr (x1 + 1)), .inr (.inr 121)]) (h1 := (px_G1, q133)) rfl ?_
              refine px_D_call (as := [.inr (.inr 121), .inl (px_wr (x1 + 1))]) (rest := []) rfl rfl rfl rfl ?_
              obtain ⟨q134, hq134, h⟩ := Option.bind_eq_some_iff.mp h
              refine px_D_mono (hg1 _ _ _ hq134) ?_
              rintro _ _ ⟨rfl, rfl⟩
              show px_D sc (d + 8) 57 35 [(3, .inl (1)), (2, .inl (s 122 (s 121 4).toNat)), (0, .inr (.inr 121)), (1, .inl (x1))] [] (px_G1, q134) _
              refine px_D_st 3 (ip1 := 38) (ls1 := [(3, .inl (1)), (2, .inl (s 122 (s 121 4).toNat)), (0, .inr (.inr 121)), (1, .inl (x1))]) (st1 := [.inl (272), .inr (.inr 125)]) (h1 := (px_G1, q134)) rfl ?_
              refine px_D_call (as := [.inr (.inr 125), .inl (272)]) (rest := []) rfl rfl rfl rfl ?_
              obtain ⟨q135, hq135, h⟩ := Option.bind_eq_some_iff.mp h
              refine px_D_mono (c_Law_put (d := d + 7) hq135) ?_
              rintro _ _ ⟨rfl, rfl⟩
              show px_D sc (d + 8) 57 39 [(3, .inl (1)), (2, .inl (s 122 (s 121 4).toNat)), (0, .inr (.inr 121)), (1, .inl (x1))] [] (px_G1, q135) _
              refine px_D_st 1 (ip1 := 86) (ls1 := [(3, .inl (1)), (2, .inl (s 122 (s 121 4).toNat)), (0, .inr (.inr 121)), (1, .inl (x1))]) (st1 := []) (h1 := (px_G1, q135)) rfl ?_
              cases h
              exact px_D_vret rfl ⟨rfl, rfl⟩
          · have hc110 : ¬ ((1) = (0)) := of_decide_eq_false hc
            rw [if_neg hc110] at h
            refine px_D_st 2 (ip1 := 20) (ls1 := [(3, .inl (1)), (2, .inl (s 122 (s 121 4).toNat)), (0, .inr (.inr 121)), (1, .inl (x1))]) (st1 := [.inl (8), .inl (x1)]) (h1 := (px_G1, s)) rfl ?_
            refine px_D_icmp rfl (fun hc => ?_) (fun hc => ?_)
            · have hc136 : (x1) < (8) := of_decide_eq_true hc
              rw [if_pos hc136] at h
              refine px_D_st 2 (ip1 := 27) (ls1 := [(3, .inl (1)), (2, .inl (s 122 (s 121 4).toNat)), (0, .inr (.inr 121)), (1, .inl (x1))]) (st1 := [.inl (272), .inl (s 122 (s 121 4).toNat)]) (h1 := (px_G1, s)) rfl ?_
              refine px_D_icmp rfl (fun hc => ?_) (fun hc => ?_)
              · have hc137 : ¬ ((s 122 (s 121 4).toNat) = (272)) := of_decide_eq_true hc
                rw [if_neg hc137] at h
                refine px_D_st 2 (ip1 := 42) (ls1 := [(3, .inl (1)), (2, .inl (s 122 (s 121 4).toNat)), (0, .inr (.inr 121)), (1, .inl (x1))]) (st1 := [.inl (40), .inl (s 122 (s 121 4).toNat)]) (h1 := (px_G1, s)) rfl ?_
                refine px_D_icmp rfl (fun hc => ?_) (fun hc => ?_)
                · have hc138 : ¬ ((s 122 (s 121 4).toNat) = (40)) := of_decide_eq_true hc
                  rw [if_neg hc138] at h
                  refine px_D_st 1 (ip1 := 55) (ls1 := [(3, .inl (1)), (2, .inl (s 122 (s 121 4).toNat)), (0, .inr (.inr 121)), (1, .inl (x1))]) (st1 := [.inr (.inr 121)]) (h1 := (px_G1, s)) rfl ?_
                  refine px_D_call (as := [.inr (.inr 121)]) (rest := []) rfl rfl rfl rfl ?_
                  obtain ⟨q139, hq139, h⟩ := Option.bind_eq_some_iff.mp h
                  refine px_D_mono (c_Reader_readSum (d := d + 5) hq139) ?_
                  rintro _ _ ⟨rfl, rfl⟩
                  show px_D sc (d + 8) 57 56 [(3, .inl (1)), (2, .inl (s 122 (s 121 4).toNat)), (0, .inr (.inr 121)), (1, .inl (x1))] [] (px_G1, q139) _
                  refine px_D_st 4 (ip1 := 60) (ls1 := [(3, .inl (1)), (2, .inl (s 122 (s 121 4).toNat)), (0, .inr (.inr 121)), (1, .inl (x1))]) (st1 := [.inl (q139 121 4), .inr (.inr 122)]) (h1 := (px_G1, q139)) rfl ?_
                  by_cases hc140 : 0 ≤ (q139 121 4) ∧ (q139 121 4) < 401
                  case neg => rw [if_neg hc140] at h; cases h
                  rw [if_pos hc140] at h
                  refine px_D_iald (k := 117) (n := 401) rfl rfl hc140 ?_
                  refine px_D_st 3 (ip1 := 64) (ls1 := [(4, .inl (q139 122 (q139 121 4).toNat)), (3, .inl (1)), (2, .inl (s 122 (s 121 4).toNat)), (0, .inr (.inr 121)), (1, .inl (x1))]) (st1 := [.inl (q139 121 7)]) (h1 := (px_G1, q139)) rfl ?_
                  refine px_D_ifc rfl (fun hc => ?_) (fun hc => ?_)
                  · have hc141 : ¬ ((q139 121 7) = (0)) := of_decide_eq_true hc
                    rw [if_neg hc141] at h
                    refine px_D_st 2 (ip1 := 85) (ls1 := [(4, .inl (q139 122 (q139 121 4).toNat)), (3, .inl (1)), (2, .inl (s 122 (s 121 4).toNat)), (0, .inr (.inr 121)), (1, .inl (x1))]) (st1 := [.inl (1), .inr (.inr 121)]) (h1 := (px_G1, q139)) rfl ?_
                    refine px_D_call (as := [.inr (.inr 121), .inl (1)]) (rest := []) rfl rfl rfl rfl ?_
                    obtain ⟨q142, hq142, h⟩ := Option.bind_eq_some_iff.mp h
                    refine px_D_mono (c_Reader_fail (d := d + 7) hq142) ?_
                    rintro _ _ ⟨rfl, rfl⟩
                    show px_D sc (d + 8) 57 86 [(4, .inl (q139 122 (q139 121 4).toNat)), (3, .inl (1)), (2, .inl (s 122 (s 121 4).toNat)), (0, .inr (.inr 121)), (1, .inl (x1))] [] (px_G1, q142) _
                    cases h
                    exact px_D_vret rfl ⟨rfl, rfl⟩
                  · have hc141 : (q139 121 7) = (0) := Decidable.of_not_not (of_decide_eq_false hc)
                    rw [if_pos hc141] at h
                    refine px_D_st 2 (ip1 := 67) (ls1 := [(4, .inl (q139 122 (q139 121 4).toNat)), (3, .inl (1)), (2, .inl (s 122 (s 121 4).toNat)), (0, .inr (.inr 121)), (1, .inl (x1))]) (st1 := [.inl (60), .inl (q139 122 (q139 121 4).toNat)]) (h1 := (px_G1, q139)) rfl ?_
                    refine px_D_icmp rfl (fun hc => ?_) (fun hc => ?_)
                    · have hc143 : (q139 122 (q139 121 4).toNat) = (60) := of_decide_eq_true hc
                      rw [if_pos hc143] at h
                      refine px_D_st 1 (ip1 := 75) (ls1 := [(4, .inl (q139 122 (q139 121 4).toNat)), (3, .inl (1)), (2, .inl (s 122 (s 121 4).toNat)), (0, .inr (.inr 121)), (1, .inl (x1))]) (st1 := [.inr (.inr 121)]) (h1 := (px_G1, q139)) rfl ?_
                      refine px_D_call (as := [.inr (.inr 121)]) (rest := []) rfl rfl rfl rfl ?_
                      obtain ⟨q144, hq144, h⟩ := Option.bind_eq_some_iff.mp h
                      refine px_D_mono (c_Reader_step (d := d + 7) hq144) ?_
                      rintro _ _ ⟨rfl, rfl⟩
                      show px_D sc (d + 8) 57 76 [(4, .inl (q139 122 (q139 121 4).toNat)), (3, .inl (1)), (2, .inl (s 122 (s 121 4).toNat)), (0, .inr (.inr 121)), (1, .inl (x1))] [] (px_G1, q144) _
                      refine px_D_st 1 (ip1 := 77) (ls1 := [(4, .inl (q139 122 (q139 121 4).toNat)), (3, .inl (1)), (2, .inl (s 122 (s 121 4).toNat)), (0, .inr (.inr 121)), (1, .inl (x1))]) (st1 := [.inr (.inr 121)]) (h1 := (px_G1, q144)) rfl ?_
                      refine px_D_call (as := [.inr (.inr 121)]) (rest := []) rfl rfl rfl rfl ?_
                      obtain ⟨q145, hq145, h⟩ := Option.bind_eq_some_iff.mp h
                      refine px_D_mono (c_Reader_readSum (d := d + 5) hq145) ?_
                      rintro _ _ ⟨rfl, rfl⟩
                      show px_D sc (d + 8) 57 78 [(4, .inl (q139 122 (q139 121 4).toNat)), (3, .inl (1)), (2, .inl (s 122 (s 121 4).toNat)), (0, .inr (.inr 121)), (1, .inl (x1))] [] (px_G1, q145) _
                      refine px_D_st 3 (ip1 := 81) (ls1 := [(4, .inl (q139 122 (q139 121 4).toNat)), (3, .inl (1)), (2, .inl (s 122 (s 121 4).toNat)), (0, .inr (.inr 121)), (1, .inl (x1))]) (st1 := [.inl (q139 122 (q139 121 4).toNat), .inr (.inr 125)]) (h1 := (px_G1, q145)) rfl ?_
                      refine px_D_call (as := [.inr (.inr 125), .inl (q139 122 (q139 121 4).toNat)]) (rest := []) rfl rfl rfl rfl ?_
                      obtain ⟨q146, hq146, h⟩ := Option.bind_eq_some_iff.mp h
                      refine px_D_mono (c_Law_put (d := d + 7) hq146) ?_
                      rintro _ _ ⟨rfl, rfl⟩
                      show px_D sc (d + 8) 57 82 [(4, .inl (q139 122 (q139 121 4).toNat)), (3, .inl (1)), (2, .inl (s 122 (s 121 4).toNat)), (0, .inr (.inr 121)), (1, .inl (x1))] [] (px_G1, q146) _
                      refine px_D_st 1 (ip1 := 86) (ls1 := [(4, .inl (q139 122 (q139 121 4).toNat)), (3, .inl (1)), (2, .inl (s 122 (s 121 4).toNat)), (0, .inr (.inr 121)), (1, .inl (x1))]) (st1 := []) (h1 := (px_G1, q146)) rfl ?_
                      cases h
                      exact px_D_vret rfl ⟨rfl, rfl⟩
                    · have hc143 : ¬ ((q139 122 (q139 121 4).toNat) = (60)) := of_decide_eq_false hc
                      rw [if_neg hc143] at h
                      refine px_D_st 2 (ip1 := 70) (ls1 := [(4, .inl (q139 122 (q139 121 4).toNat)), (3, .inl (1)), (2, .inl (s 122 (s 121 4).toNat)), (0, .inr (.inr 121)), (1, .inl (x1))]) (st1 := [.inl (61), .inl (q139 122 (q139 121 4).toNat)]) (h1 := (px_G1, q139)) rfl ?_
                      refine px_D_icmp rfl (fun hc => ?_) (fun hc => ?_)
                      · have hc147 : (q139 122 (q139 121 4).toNat) = (61) := of_decide_eq_true hc
                        rw [if_pos hc147] at h
                        refine px_D_st 1 (ip1 := 75) (ls1 := [(4, .inl (q139 122 (q139 121 4).toNat)), (3, .inl (1)), (2, .inl (s 122 (s 121 4).toNat)), (0, .inr (.inr 121)), (1, .inl (x1))]) (st1 := [.inr (.inr 121)]) (h1 := (px_G1, q139)) rfl ?_
                        refine px_D_call (as := [.inr (.inr 121)]) (rest := []) rfl rfl rfl rfl ?_
                        obtain ⟨q148, hq148, h⟩ := Option.bind_eq_some_iff.mp h
                        refine px_D_mono (c_Reader_step (d := d + 7) hq148) ?_
                        rintro _ _ ⟨rfl, rfl⟩
                        show px_D sc (d + 8) 57 76 [(4, .inl (q139 122 (q139 121 4).toNat)), (3, .inl (1)), (2, .inl (s 122 (s 121 4).toNat)), (0, .inr (.inr 121)), (1, .inl (x1))] [] (px_G1, q148) _
                        refine px_D_st 1 (ip1 := 77) (ls1 := [(4, .inl (q139 122 (q139 121 4).toNat)), (3, .inl (1)), (2, .inl (s 122 (s 121 4).toNat)), (0, .inr (.inr 121)), (1, .inl (x1))]) (st1 := [.inr (.inr 121)]) (h1 := (px_G1, q148)) rfl ?_
                        refine px_D_call (as := [.inr (.inr 121)]) (rest := []) rfl rfl rfl rfl ?_
                        obtain ⟨q149, hq149, h⟩ := Option.bind_eq_some_iff.mp h
                        refine px_D_mono (c_Reader_readSum (d := d + 5) hq149) ?_
                        rintro _ _ ⟨rfl, rfl⟩
                        show px_D sc (d + 8) 57 78 [(4, .inl (q139 122 (q139 121 4).toNat)), (3, .inl (1)), (2, .inl (s 122 (s 121 4).toNat)), (0, .inr (.inr 121)), (1, .inl (x1))] [] (px_G1, q149) _
                        refine px_D_st 3 (ip1 := 81) (ls1 := [(4, .inl (q139 122 (q139 121 4).toNat)), (3, .inl (1)), (2, .inl (s 122 (s 121 4).toNat)), (0, .inr (.inr 121)), (1, .inl (x1))]) (st1 := [.inl (q139 122 (q139 121 4).toNat), .inr (.inr 125)]) (h1 := (px_G1, q149)) rfl ?_
                        refine px_D_call (as := [.inr (.inr 125), .inl (q139 122 (q139 121 4).toNat)]) (rest := []) rfl rfl rfl rfl ?_
                        obtain ⟨q150, hq150, h⟩ := Option.bind_eq_some_iff.mp h
                        refine px_D_mono (c_Law_put (d := d + 7) hq150) ?_
                        rintro _ _ ⟨rfl, rfl⟩
                        show px_D sc (d + 8) 57 82 [(4, .inl (q139 122 (q139 121 4).toNat)), (3, .inl (1)), (2, .inl (s 122 (s 121 4).toNat)), (0, .inr (.inr 121)), (1, .inl (x1))] [] (px_G1, q150) _
                        refine px_D_st 1 (ip1 := 86) (ls1 := [(4, .inl (q139 122 (q139 121 4).toNat)), (3, .inl (1)), (2, .inl (s 122 (s 121 4).toNat)), (0, .inr (.inr 121)), (1, .inl (x1))]) (st1 := []) (h1 := (px_G1, q150)) rfl ?_
                        cases h
                        exact px_D_vret rfl ⟨rfl, rfl⟩
                      · have hc147 : ¬ ((q139 122 (q139 121 4).toNat) = (61)) := of_decide_eq_false hc
                        rw [if_neg hc147] at h
                        refine px_D_st 2 (ip1 := 73) (ls1 := [(4, .inl (q139 122 (q139 121 4).toNat)), (3, .inl (1)), (2, .inl (s 122 (s 121 4).toNat)), (0, .inr (.inr 121)), (1, .inl (x1))]) (st1 := [.inl (62), .inl (q139 122 (q139 121 4).toNat)]) (h1 := (px_G1, q139)) rfl ?_
                        refine px_D_icmp rfl (fun hc => ?_) (fun hc => ?_)
                        · have hc151 : ¬ ((q139 122 (q139 121 4).toNat) = (62)) := of_decide_eq_true hc
                          rw [if_neg hc151] at h
                          refine px_D_st 2 (ip1 := 85) (ls1 := [(4, .inl (q139 122 (q139 121 4).toNat)), (3, .inl (1)), (2, .inl (s 122 (s 121 4).toNat)), (0, .inr (.inr 121)), (1, .inl (x1))]) (st1 := [.inl (1), .inr (.inr 121)]) (h1 := (px_G1, q139)) rfl ?_
                          refine px_D_call (as := [.inr (.inr 121), .inl (1)]) (rest := []) rfl rfl rfl rfl ?_
                          obtain ⟨q152, hq152, h⟩ := Option.bind_eq_some_iff.mp h
                          refine px_D_mono (c_Reader_fail (d := d + 7) hq152) ?_
                          rintro _ _ ⟨rfl, rfl⟩
                          show px_D sc (d + 8) 57 86 [(4, .inl (q139 122 (q139 121 4).toNat)), (3, .inl (1)), (2, .inl (s 122 (s 121 4).toNat)), (0, .inr (.inr 121)), (1, .inl (x1))] [] (px_G1, q152) _
                          cases h
                          exact px_D_vret rfl ⟨rfl, rfl⟩
                        · have hc151 : (q139 122 (q139 121 4).toNat) = (62) := Decidable.of_not_not (of_decide_eq_false hc)
                          rw [if_pos hc151] at h
                          refine px_D_st 1 (ip1 := 75) (ls1 := [(4, .inl (q139 122 (q139 121 4).toNat)), (3, .inl (1)), (2, .inl (s 122 (s 121 4).toNat)), (0, .inr (.inr 121)), (1, .inl (x1))]) (st1 := [.inr (.inr 121)]) (h1 := (px_G1, q139)) rfl ?_
                          refine px_D_call (as := [.inr (.inr 121)]) (rest := []) rfl rfl rfl rfl ?_
                          obtain ⟨q153, hq153, h⟩ := Option.bind_eq_some_iff.mp h
                          refine px_D_mono (c_Reader_step (d := d + 7) hq153) ?_
                          rintro _ _ ⟨rfl, rfl⟩
                          show px_D sc (d + 8) 57 76 [(4, .inl (q139 122 (q139 121 4).toNat)), (3, .inl (1)), (2, .inl (s 122 (s 121 4).toNat)), (0, .inr (.inr 121)), (1, .inl (x1))] [] (px_G1, q153) _
                          refine px_D_st 1 (ip1 := 77) (ls1 := [(4, .inl (q139 122 (q139 121 4).toNat)), (3, .inl (1)), (2, .inl (s 122 (s 121 4).toNat)), (0, .inr (.inr 121)), (1, .inl (x1))]) (st1 := [.inr (.inr 121)]) (h1 := (px_G1, q153)) rfl ?_
                          refine px_D_call (as := [.inr (.inr 121)]) (rest := []) rfl rfl rfl rfl ?_
                          obtain ⟨q154, hq154, h⟩ := Option.bind_eq_some_iff.mp h
                          refine px_D_mono (c_Reader_readSum (d := d + 5) hq154) ?_
                          rintro _ _ ⟨rfl, rfl⟩
                          show px_D sc (d + 8) 57 78 [(4, .inl (q139 122 (q139 121 4).toNat)), (3, .inl (1)), (2, .inl (s 122 (s 121 4).toNat)), (0, .inr (.inr 121)), (1, .inl (x1))] [] (px_G1, q154) _
                          refine px_D_st 3 (ip1 := 81) (ls1 := [(4, .inl (q139 122 (q139 121 4).toNat)), (3, .inl (1)), (2, .inl (s 122 (s 121 4).toNat)), (0, .inr (.inr 121)), (1, .inl (x1))]) (st1 := [.inl (q139 122 (q139 121 4).toNat), .inr (.inr 125)]) (h1 := (px_G1, q154)) rfl ?_
                          refine px_D_call (as := [.inr (.inr 125), .inl (q139 122 (q139 121 4).toNat)]) (rest := []) rfl rfl rfl rfl ?_
                          obtain ⟨q155, hq155, h⟩ := Option.bind_eq_some_iff.mp h
                          refine px_D_mono (c_Law_put (d := d + 7) hq155) ?_
                          rintro _ _ ⟨rfl, rfl⟩
                          show px_D sc (d + 8) 57 82 [(4, .inl (q139 122 (q139 121 4).toNat)), (3, .inl (1)), (2, .inl (s 122 (s 121 4).toNat)), (0, .inr (.inr 121)), (1, .inl (x1))] [] (px_G1, q155) _
                          refine px_D_st 1 (ip1 := 86) (ls1 := [(4, .inl (q139 122 (q139 121 4).toNat)), (3, .inl (1)), (2, .inl (s 122 (s 121 4).toNat)), (0, .inr (.inr 121)), (1, .inl (x1))]) (st1 := []) (h1 := (px_G1, q155)) rfl ?_
                          cases h
                          exact px_D_vret rfl ⟨rfl, rfl⟩
                · have hc138 : (s 122 (s 121 4).toNat) = (40) := Decidable.of_not_not (of_decide_eq_false hc)
                  rw [if_pos hc138] at h
                  refine px_D_st 1 (ip1 := 44) (ls1 := [(3, .inl (1)), (2, .inl (s 122 (s 121 4).toNat)), (0, .inr (.inr 121)), (1, .inl (x1))]) (st1 := [.inr (.inr 121)]) (h1 := (px_G1, s)) rfl ?_
                  refine px_D_call (as := [.inr (.inr 121)]) (rest := []) rfl rfl rfl rfl ?_
                  obtain ⟨q156, hq156, h⟩ := Option.bind_eq_some_iff.mp h
                  refine px_D_mono (c_Reader_step (d := d + 7) hq156) ?_
                  rintro _ _ ⟨rfl, rfl⟩
                  show px_D sc (d + 8) 57 45 [(3, .inl (1)), (2, .inl (s 122 (s 121 4).toNat)), (0, .inr (.inr 121)), (1, .inl (x1))] [] (px_G1, q156) _
                  refine px_D_st 4 (ip1 := 49) (ls1 := [(3, .inl (1)), (2, .inl (s 122 (s 121 4).toNat)), (0, .inr (.inr 121)), (1, .inl (x1))]) (st1 := [.inl (px_wr (x1 + 1)), .inr (.inr 121)]) (h1 := (px_G1, q156)) rfl ?_
                  refine px_D_call (as := [.inr (.inr 121), .inl (px_wr (x1 + 1))]) (rest := []) rfl rfl rfl rfl ?_
                  obtain ⟨q157, hq157, h⟩ := Option.bind_eq_some_iff.mp h
                  refine px_D_mono (hg0 _ _ _ hq157) ?_
                  rintro _ _ ⟨rfl, rfl⟩
                  show px_D sc (d + 8) 57 50 [(3, .inl (1)), (2, .inl (s 122 (s 121 4).toNat)), (0, .inr (.inr 121)), (1, .inl (x1))] [] (px_G1, q157) _
                  refine px_D_st 2 (ip1 := 52) (ls1 := [(3, .inl (1)), (2, .inl (s 122 (s 121 4).toNat)), (0, .inr (.inr 121)), (1, .inl (x1))]) (st1 := [.inl (41), .inr (.inr 121)]) (h1 := (px_G1, q157)) rfl ?_
                  refine px_D_call (as := [.inr (.inr 121), .inl (41)]) (rest := []) rfl rfl rfl rfl ?_
                  obtain ⟨q158, hq158, h⟩ := Option.bind_eq_some_iff.mp h
                  refine px_D_mono (c_Reader_expect (d := d + 6) hq158) ?_
                  rintro _ _ ⟨rfl, rfl⟩
                  show px_D sc (d + 8) 57 53 [(3, .inl (1)), (2, .inl (s 122 (s 121 4).toNat)), (0, .inr (.inr 121)), (1, .inl (x1))] [] (px_G1, q158) _
                  refine px_D_st 1 (ip1 := 86) (ls1 := [(3, .inl (1)), (2, .inl (s 122 (s 121 4).toNat)), (0, .inr (.inr 121)), (1, .inl (x1))]) (st1 := []) (h1 := (px_G1, q158)) rfl ?_
                  cases h
                  exact px_D_vret rfl ⟨rfl, rfl⟩
              · have hc137 : (s 122 (s 121 4).toNat) = (272) := Decidable.of_not_not (of_decide_eq_false hc)
                rw [if_pos hc137] at h
                refine px_D_st 1 (ip1 := 29) (ls1 := [(3, .inl (1)), (2, .inl (s 122 (s 121 4).toNat)), (0, .inr (.inr 121)), (1, .inl (x1))]) (st1 := [.inr (.inr 121)]) (h1 := (px_G1, s)) rfl ?_
                refine px_D_call (as := [.inr (.inr 121)]) (rest := []) rfl rfl rfl rfl ?_
                obtain ⟨q159, hq159, h⟩ := Option.bind_eq_some_iff.mp h
                refine px_D_mono (c_Reader_step (d := d + 7) hq159) ?_
                rintro _ _ ⟨rfl, rfl⟩
                show px_D sc (d + 8) 57 30 [(3, .inl (1)), (2, .inl (s 122 (s 121 4).toNat)), (0, .inr (.inr 121)), (1, .inl (x1))] [] (px_G1, q159) _
                refine px_D_st 4 (ip1 := 34) (ls1 := [(3, .inl (1)), (2, .inl (s 122 (s 121 4).toNat)), (0, .inr (.inr 121)), (1, .inl (x1))]) (st1 := [.inl (px_wr (x1 + 1)), .inr (.inr 121)]) (h1 := (px_G1, q159)) rfl ?_
                refine px_D_call (as := [.inr (.inr 121), .inl (px_wr (x1 + 1))]) (rest := []) rfl rfl rfl rfl ?_
                obtain ⟨q160, hq160, h⟩ := Option.bind_eq_some_iff.mp h
                refine px_D_mono (hg1 _ _ _ hq160) ?_
                rintro _ _ ⟨rfl, rfl⟩
                show px_D sc (d + 8) 57 35 [(3, .inl (1)), (2, .inl (s 122 (s 121 4).toNat)), (0, .inr (.inr 121)), (1, .inl (x1))] [] (px_G1, q160) _
                refine px_D_st 3 (ip1 := 38) (ls1 := [(3, .inl (1)), (2, .inl (s 122 (s 121 4).toNat)), (0, .inr (.inr 121)), (1, .inl (x1))]) (st1 := [.inl (272), .inr (.inr 125)]) (h1 := (px_G1, q160)) rfl ?_
                refine px_D_call (as := [.inr (.inr 125), .inl (272)]) (rest := []) rfl rfl rfl rfl ?_
                obtain ⟨q161, hq161, h⟩ := Option.bind_eq_some_iff.mp h
                refine px_D_mono (c_Law_put (d := d + 7) hq161) ?_
                rintro _ _ ⟨rfl, rfl⟩
                show px_D sc (d + 8) 57 39 [(3, .inl (1)), (2, .inl (s 122 (s 121 4).toNat)), (0, .inr (.inr 121)), (1, .inl (x1))] [] (px_G1, q161) _
                refine px_D_st 1 (ip1 := 86) (ls1 := [(3, .inl (1)), (2, .inl (s 122 (s 121 4).toNat)), (0, .inr (.inr 121)), (1, .inl (x1))]) (st1 := []) (h1 := (px_G1, q161)) rfl ?_
                cases h
                exact px_D_vret rfl ⟨rfl, rfl⟩
            · have hc136 : ¬ ((x1) < (8)) := of_decide_eq_false hc
              rw [if_neg hc136] at h
              refine px_D_st 2 (ip1 := 23) (ls1 := [(3, .inl (1)), (2, .inl (s 122 (s 121 4).toNat)), (0, .inr (.inr 121)), (1, .inl (x1))]) (st1 := [.inl (3), .inr (.inr 121)]) (h1 := (px_G1, s)) rfl ?_
              refine px_D_call (as := [.inr (.inr 121), .inl (3)]) (rest := []) rfl rfl rfl rfl ?_
              obtain ⟨q162, hq162, h⟩ := Option.bind_eq_some_iff.mp h
              refine px_D_mono (c_Reader_fail (d := d + 7) hq162) ?_
              rintro _ _ ⟨rfl, rfl⟩
              show px_D sc (d + 8) 57 24 [(3, .inl (1)), (2, .inl (s 122 (s 121 4).toNat)), (0, .inr (.inr 121)), (1, .inl (x1))] [] (px_G1, q162) _
              refine px_D_st 1 (ip1 := 86) (ls1 := [(3, .inl (1)), (2, .inl (s 122 (s 121 4).toNat)), (0, .inr (.inr 121)), (1, .inl (x1))]) (st1 := []) (h1 := (px_G1, q162)) rfl ?_
              cases h
              exact px_D_vret rfl ⟨rfl, rfl⟩
def f_Reader_readEither (s : px_Z) (x1 : Int) : Option px_Z := g_0 24 0 s x1
set_option maxHeartbeats 4000000 in
set_option maxRecDepth 100000 in
theorem c_Reader_readEither {sc : List Int} {d : Nat} {s : px_Z} {x1 : Int} {out : px_Z} (h : f_Reader_readEither s x1 = some out) : px_D sc (d + 192) 56 0 [(0, .inr (.inr 121)), (1, .inl (x1))] [] (px_G1, s) (px_Qv out) := cg_0 24 d 0 s x1 out h
def f_Reader_readCondition (s : px_Z) (x1 : Int) : Option px_Z := g_0 24 1 s x1
set_option maxHeartbeats 4000000 in
set_option maxRecDepth 100000 in
theorem c_Reader_readCondition {sc : List Int} {d : Nat} {s : px_Z} {x1 : Int} {out : px_Z} (h : f_Reader_readCondition s x1 = some out) : px_D sc (d + 192) 57 0 [(0, .inr (.inr 121)), (1, .inl (x1))] [] (px_G1, s) (px_Qv out) := cg_0 24 d 1 s x1 out h
