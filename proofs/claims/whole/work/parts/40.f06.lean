def j_Reader_readHill_j7 (s : px_Z) (x1 : Int) (t0 : Int) (t1 : Int) : Option (px_Z) := (f_Reader_numberWithin s t1 t0).bind (fun q2 => if (x1) = (0) then (f_Reader_expect q2.2 274).bind (fun q4 => (f_Reader_numberWithin q4 0 60).bind (fun q5 => (f_Reader_expect q5.2 275).bind (fun q6 => (f_Reader_numberWithin q6 q5.1 60).bind (fun q7 => (f_Reader_expect q7.2 276).bind (fun q8 => (f_Reader_numberWithin q8 0 5).bind (fun q9 => (f_Hills_addPass q9.2 q2.1 q5.1 q7.1 q9.1).bind (fun q10 => (f_Reader_expect q10 59).bind (fun q11 => some q11)))))))) else (f_Reader_expect q2.2 278).bind (fun q12 => (f_Reader_numberWithin q12 0 5).bind (fun q13 => (f_Hills_addCave q13.2 q2.1 q13.1).bind (fun q14 => (f_Reader_expect q14 59).bind (fun q15 => some q15)))))
set_option maxHeartbeats 4000000 in
set_option maxRecDepth 100000 in
theorem cj_Reader_readHill_j7 {sc : List Int} {d : Nat} {s : px_Z} {x1 : Int} {t0 : Int} {t1 : Int} {out : px_Z} (h : j_Reader_readHill_j7 s x1 t0 t1 = some out) : px_D sc (d + 2) 56 7 [(0, .inr (.inr 121)), (1, .inl (x1))] [.inl (t0), .inl (t1), .inr (.inr 121)] (px_G1, s) (px_Qv out) := by
  unfold j_Reader_readHill_j7 at h
  refine px_D_call (as := [.inr (.inr 121), .inl (t1), .inl (t0)]) (rest := []) rfl rfl rfl rfl ?_
  obtain ⟨q2, hq2, h⟩ := Option.bind_eq_some_iff.mp h
  refine px_D_mono (c_Reader_numberWithin (d := d + 0) hq2) ?_
  rintro _ _ ⟨rfl, rfl⟩
  show px_D sc (d + 2) 56 8 [(0, .inr (.inr 121)), (1, .inl (x1))] [.inl (q2.1)] (px_G1, q2.2) _
  refine px_D_st 2 (ip1 := 10) (ls1 := [(2, .inl (q2.1)), (0, .inr (.inr 121)), (1, .inl (x1))]) (st1 := [.inl (x1)]) (h1 := (px_G1, q2.2)) rfl ?_
  refine px_D_ifc rfl (fun hc => ?_) (fun hc => ?_)
  · have hc3 : (x1) = (0) := of_decide_eq_true hc
    rw [if_pos hc3] at h
    refine px_D_st 2 (ip1 := 25) (ls1 := [(2, .inl (q2.1)), (0, .inr (.inr 121)), (1, .inl (x1))]) (st1 := [.inl (274), .inr (.inr 121)]) (h1 := (px_G1, q2.2)) rfl ?_
    refine px_D_call (as := [.inr (.inr 121), .inl (274)]) (rest := []) rfl rfl rfl rfl ?_
    obtain ⟨q4, hq4, h⟩ := Option.bind_eq_some_iff.mp h
    refine px_D_mono (c_Reader_expect (d := d + 0) hq4) ?_
    rintro _ _ ⟨rfl, rfl⟩
    show px_D sc (d + 2) 56 26 [(2, .inl (q2.1)), (0, .inr (.inr 121)), (1, .inl (x1))] [] (px_G1, q4) _
    refine px_D_st 3 (ip1 := 29) (ls1 := [(2, .inl (q2.1)), (0, .inr (.inr 121)), (1, .inl (x1))]) (st1 := [.inl (60), .inl (0), .inr (.inr 121)]) (h1 := (px_G1, q4)) rfl ?_
    refine px_D_call (as := [.inr (.inr 121), .inl (0), .inl (60)]) (rest := []) rfl rfl rfl rfl ?_
    obtain ⟨q5, hq5, h⟩ := Option.bind_eq_some_iff.mp h
    refine px_D_mono (c_Reader_numberWithin (d := d + 0) hq5) ?_
    rintro _ _ ⟨rfl, rfl⟩
    show px_D sc (d + 2) 56 30 [(2, .inl (q2.1)), (0, .inr (.inr 121)), (1, .inl (x1))] [.inl (q5.1)] (px_G1, q5.2) _
    refine px_D_st 3 (ip1 := 33) (ls1 := [(3, .inl (q5.1)), (2, .inl (q2.1)), (0, .inr (.inr 121)), (1, .inl (x1))]) (st1 := [.inl (275), .inr (.inr 121)]) (h1 := (px_G1, q5.2)) rfl ?_
    refine px_D_call (as := [.inr (.inr 121), .inl (275)]) (rest := []) rfl rfl rfl rfl ?_
    obtain ⟨q6, hq6, h⟩ := Option.bind_eq_some_iff.mp h
    refine px_D_mono (c_Reader_expect (d := d + 0) hq6) ?_
    rintro _ _ ⟨rfl, rfl⟩
    show px_D sc (d + 2) 56 34 [(3, .inl (q5.1)), (2, .inl (q2.1)), (0, .inr (.inr 121)), (1, .inl (x1))] [] (px_G1, q6) _
    refine px_D_st 3 (ip1 := 37) (ls1 := [(3, .inl (q5.1)), (2, .inl (q2.1)), (0, .inr (.inr 121)), (1, .inl (x1))]) (st1 := [.inl (60), .inl (q5.1), .inr (.inr 121)]) (h1 := (px_G1, q6)) rfl ?_
    refine px_D_call (as := [.inr (.inr 121), .inl (q5.1), .inl (60)]) (rest := []) rfl rfl rfl rfl ?_
    obtain ⟨q7, hq7, h⟩ := Option.bind_eq_some_iff.mp h
    refine px_D_mono (c_Reader_numberWithin (d := d + 0) hq7) ?_
    rintro _ _ ⟨rfl, rfl⟩
    show px_D sc (d + 2) 56 38 [(3, .inl (q5.1)), (2, .inl (q2.1)), (0, .inr (.inr 121)), (1, .inl (x1))] [.inl (q7.1)] (px_G1, q7.2) _
    refine px_D_st 3 (ip1 := 41) (ls1 := [(4, .inl (q7.1)), (3, .inl (q5.1)), (2, .inl (q2.1)), (0, .inr (.inr 121)), (1, .inl (x1))]) (st1 := [.inl (276), .inr (.inr 121)]) (h1 := (px_G1, q7.2)) rfl ?_
    refine px_D_call (as := [.inr (.inr 121), .inl (276)]) (rest := []) rfl rfl rfl rfl ?_
    obtain ⟨q8, hq8, h⟩ := Option.bind_eq_some_iff.mp h
    refine px_D_mono (c_Reader_expect (d := d + 0) hq8) ?_
    rintro _ _ ⟨rfl, rfl⟩
    show px_D sc (d + 2) 56 42 [(4, .inl (q7.1)), (3, .inl (q5.1)), (2, .inl (q2.1)), (0, .inr (.inr 121)), (1, .inl (x1))] [] (px_G1, q8) _
    refine px_D_st 8 (ip1 := 50) (ls1 := [(4, .inl (q7.1)), (3, .inl (q5.1)), (2, .inl (q2.1)), (0, .inr (.inr 121)), (1, .inl (x1))]) (st1 := [.inl (5), .inl (0), .inr (.inr 121), .inl (q7.1), .inl (q5.1), .inl (q2.1), .inr (.inr 132)]) (h1 := (px_G1, q8)) rfl ?_
    refine px_D_call (as := [.inr (.inr 121), .inl (0), .inl (5)]) (rest := [.inl (q7.1), .inl (q5.1), .inl (q2.1), .inr (.inr 132)]) rfl rfl rfl rfl ?_
    obtain ⟨q9, hq9, h⟩ := Option.bind_eq_some_iff.mp h
    refine px_D_mono (c_Reader_numberWithin (d := d + 0) hq9) ?_
    rintro _ _ ⟨rfl, rfl⟩
    show px_D sc (d + 2) 56 51 [(4, .inl (q7.1)), (3, .inl (q5.1)), (2, .inl (q2.1)), (0, .inr (.inr 121)), (1, .inl (x1))] [.inl (q9.1), .inl (q7.1), .inl (q5.1), .inl (q2.1), .inr (.inr 132)] (px_G1, q9.2) _
    refine px_D_call (as := [.inr (.inr 132), .inl (q2.1), .inl (q5.1), .inl (q7.1), .inl (q9.1)]) (rest := []) rfl rfl rfl rfl ?_
    obtain ⟨q10, hq10, h⟩ := Option.bind_eq_some_iff.mp h
    refine px_D_mono (c_Hills_addPass (d := d + 1) hq10) ?_
    rintro _ _ ⟨rfl, rfl⟩
    show px_D sc (d + 2) 56 52 [(4, .inl (q7.1)), (3, .inl (q5.1)), (2, .inl (q2.1)), (0, .inr (.inr 121)), (1, .inl (x1))] [] (px_G1, q10) _
    refine px_D_st 2 (ip1 := 54) (ls1 := [(4, .inl (q7.1)), (3, .inl (q5.1)), (2, .inl (q2.1)), (0, .inr (.inr 121)), (1, .inl (x1))]) (st1 := [.inl (59), .inr (.inr 121)]) (h1 := (px_G1, q10)) rfl ?_
    refine px_D_call (as := [.inr (.inr 121), .inl (59)]) (rest := []) rfl rfl rfl rfl ?_
    obtain ⟨q11, hq11, h⟩ := Option.bind_eq_some_iff.mp h
    refine px_D_mono (c_Reader_expect (d := d + 0) hq11) ?_
    rintro _ _ ⟨rfl, rfl⟩
    show px_D sc (d + 2) 56 55 [(4, .inl (q7.1)), (3, .inl (q5.1)), (2, .inl (q2.1)), (0, .inr (.inr 121)), (1, .inl (x1))] [] (px_G1, q11) _
    cases h
    exact px_D_vret rfl ⟨rfl, rfl⟩
  · have hc3 : ¬ ((x1) = (0)) := of_decide_eq_false hc
    rw [if_neg hc3] at h
    refine px_D_st 2 (ip1 := 13) (ls1 := [(2, .inl (q2.1)), (0, .inr (.inr 121)), (1, .inl (x1))]) (st1 := [.inl (278), .inr (.inr 121)]) (h1 := (px_G1, q2.2)) rfl ?_
    refine px_D_call (as := [.inr (.inr 121), .inl (278)]) (rest := []) rfl rfl rfl rfl ?_
    obtain ⟨q12, hq12, h⟩ := Option.bind_eq_some_iff.mp h
    refine px_D_mono (c_Reader_expect (d := d + 0) hq12) ?_
    rintro _ _ ⟨rfl, rfl⟩
    show px_D sc (d + 2) 56 14 [(2, .inl (q2.1)), (0, .inr (.inr 121)), (1, .inl (x1))] [] (px_G1, q12) _
    refine px_D_st 6 (ip1 := 20) (ls1 := [(2, .inl (q2.1)), (0, .inr (.inr 121)), (1, .inl (x1))]) (st1 := [.inl (5), .inl (0), .inr (.inr 121), .inl (q2.1), .inr (.inr 132)]) (h1 := (px_G1, q12)) rfl ?_
    refine px_D_call (as := [.inr (.inr 121), .inl (0), .inl (5)]) (rest := [.inl (q2.1), .inr (.inr 132)]) rfl rfl rfl rfl ?_
    obtain ⟨q13, hq13, h⟩ := Option.bind_eq_some_iff.mp h
    refine px_D_mono (c_Reader_numberWithin (d := d + 0) hq13) ?_
    rintro _ _ ⟨rfl, rfl⟩
    show px_D sc (d + 2) 56 21 [(2, .inl (q2.1)), (0, .inr (.inr 121)), (1, .inl (x1))] [.inl (q13.1), .inl (q2.1), .inr (.inr 132)] (px_G1, q13.2) _
    refine px_D_call (as := [.inr (.inr 132), .inl (q2.1), .inl (q13.1)]) (rest := []) rfl rfl rfl rfl ?_
    obtain ⟨q14, hq14, h⟩ := Option.bind_eq_some_iff.mp h
    refine px_D_mono (c_Hills_addCave (d := d + 1) hq14) ?_
    rintro _ _ ⟨rfl, rfl⟩
    show px_D sc (d + 2) 56 22 [(2, .inl (q2.1)), (0, .inr (.inr 121)), (1, .inl (x1))] [] (px_G1, q14) _
    refine px_D_st 3 (ip1 := 54) (ls1 := [(2, .inl (q2.1)), (0, .inr (.inr 121)), (1, .inl (x1))]) (st1 := [.inl (59), .inr (.inr 121)]) (h1 := (px_G1, q14)) rfl ?_
    refine px_D_call (as := [.inr (.inr 121), .inl (59)]) (rest := []) rfl rfl rfl rfl ?_
    obtain ⟨q15, hq15, h⟩ := Option.bind_eq_some_iff.mp h
    refine px_D_mono (c_Reader_expect (d := d + 0) hq15) ?_
    rintro _ _ ⟨rfl, rfl⟩
    show px_D sc (d + 2) 56 55 [(2, .inl (q2.1)), (0, .inr (.inr 121)), (1, .inl (x1))] [] (px_G1, q15) _
    cases h
    exact px_D_vret rfl ⟨rfl, rfl⟩
def f_Reader_readHill (s : px_Z) (x1 : Int) : Option (px_Z) := if (x1) = (0) then j_Reader_readHill_j7 s x1 5 0 else j_Reader_readHill_j7 s x1 7 0
set_option maxHeartbeats 4000000 in
set_option maxRecDepth 100000 in
theorem c_Reader_readHill {sc : List Int} {d : Nat} {s : px_Z} {x1 : Int} {out : px_Z} (h : f_Reader_readHill s x1 = some out) : px_D sc (d + 2) 56 0 [(0, .inr (.inr 121)), (1, .inl (x1))] [] (px_G1, s) (px_Qv out) := by
  unfold f_Reader_readHill at h
  refine px_D_st 3 (ip1 := 3) (ls1 := [(0, .inr (.inr 121)), (1, .inl (x1))]) (st1 := [.inl (x1), .inl (0), .inr (.inr 121)]) (h1 := (px_G1, s)) rfl ?_
  refine px_D_ifc rfl (fun hc => ?_) (fun hc => ?_)
  · have hc1 : (x1) = (0) := of_decide_eq_true hc
    rw [if_pos hc1] at h
    refine px_D_st 1 (ip1 := 7) (ls1 := [(0, .inr (.inr 121)), (1, .inl (x1))]) (st1 := [.inl (5), .inl (0), .inr (.inr 121)]) (h1 := (px_G1, s)) rfl ?_
    refine px_D_ls [(0, .inr (.inr 121)), (1, .inl (x1))] rfl rfl (List.forall_mem_cons.mpr ⟨rfl, List.forall_mem_cons.mpr ⟨rfl, fun _ h => absurd h List.not_mem_nil⟩⟩) ?_
    exact cj_Reader_readHill_j7 h
  · have hc1 : ¬ ((x1) = (0)) := of_decide_eq_false hc
    rw [if_neg hc1] at h
    refine px_D_st 2 (ip1 := 7) (ls1 := [(0, .inr (.inr 121)), (1, .inl (x1))]) (st1 := [.inl (7), .inl (0), .inr (.inr 121)]) (h1 := (px_G1, s)) rfl ?_
    refine px_D_ls [(0, .inr (.inr 121)), (1, .inl (x1))] rfl rfl (List.forall_mem_cons.mpr ⟨rfl, List.forall_mem_cons.mpr ⟨rfl, fun _ h => absurd h List.not_mem_nil⟩⟩) ?_
    exact cj_Reader_readHill_j7 h

def l_Reader_readHills_6 (k47 : px_Z → Option (px_Z)) : Nat → px_Z → Int → Option (px_Z)
  | 0, _, _ => none
  | n + 1, s, x1 => if (24) < (x1) then k47 s  else (f_Reader_goesOn s ).bind (fun q2 => if (q2) = (0) then k47 s  else (if 0 ≤ (s 121 4) ∧ (s 121 4) < 401 then if (s 122 (s 121 4).toNat) = (273) then (if (x1) = (24) then (f_Reader_fail s 3).bind (fun q11 => l_Reader_readHills_6 k47 n q11 (px_wr (x1 + 1))) else (f_Reader_step s ).bind (fun q7 => if (s 122 (s 121 4).toNat) = (277) then (f_Reader_readHill q7 1).bind (fun q10 => l_Reader_readHills_6 k47 n q10 (px_wr (x1 + 1))) else (f_Reader_readHill q7 0).bind (fun q9 => l_Reader_readHills_6 k47 n q9 (px_wr (x1 + 1))))) else (if (s 122 (s 121 4).toNat) = (277) then (if (x1) = (24) then (f_Reader_fail s 3).bind (fun q18 => l_Reader_readHills_6 k47 n q18 (px_wr (x1 + 1))) else (f_Reader_step s ).bind (fun q14 => if (s 122 (s 121 4).toNat) = (277) then (f_Reader_readHill q14 1).bind (fun q17 => l_Reader_readHills_6 k47 n q17 (px_wr (x1 + 1))) else (f_Reader_readHill q14 0).bind (fun q16 => l_Reader_readHills_6 k47 n q16 (px_wr (x1 + 1))))) else (f_Reader_fail s 1).bind (fun q19 => l_Reader_readHills_6 k47 n q19 (px_wr (x1 + 1)))) else none))
set_option maxHeartbeats 4000000 in
set_option maxRecDepth 100000 in
theorem cl_Reader_readHills_6 {sc : List Int} {d : Nat} {k47 : px_Z → Option (px_Z)}  (hk47 : ∀ (s : px_Z) (out : px_Z), k47 s  = some out → px_D sc (d + 3) 55 47 [] [] (px_G1, s) (px_Qv out)) : ∀ (n : Nat) (s : px_Z) (x1 : Int) (out : px_Z), l_Reader_readHills_6 k47 n s x1 = some out → px_D sc (d + 3) 55 6 [(0, .inr (.inr 121)), (1, .inl (x1))] [] (px_G1, s) (px_Qv out) := by
  intro n
  induction n with
  | zero => intro s x1 out h; cases h
  | succ n ih =>
    intro s x1 out h
    rw [l_Reader_readHills_6] at h
    refine px_D_st 2 (ip1 := 8) (ls1 := [(0, .inr (.inr 121)), (1, .inl (x1))]) (st1 := [.inl (24), .inl (x1)]) (h1 := (px_G1, s)) rfl ?_
    refine px_D_icmp rfl (fun hc => ?_) (fun hc => ?_)
    · have hc1 : (24) < (x1) := of_decide_eq_true hc
      rw [if_pos hc1] at h
      refine px_D_ls [] rfl rfl (fun _ h => absurd h List.not_mem_nil) ?_
      exact hk47 _ _ h
    · have hc1 : ¬ ((24) < (x1)) := of_decide_eq_false hc
      rw [if_neg hc1] at h
      refine px_D_st 1 (ip1 := 10) (ls1 := [(0, .inr (.inr 121)), (1, .inl (x1))]) (st1 := [.inr (.inr 121)]) (h1 := (px_G1, s)) rfl ?_
      refine px_D_call (as := [.inr (.inr 121)]) (rest := []) rfl rfl rfl rfl ?_
      obtain ⟨q2, hq2, h⟩ := Option.bind_eq_some_iff.mp h
      refine px_D_mono (c_Reader_goesOn (d := d + 2) hq2) ?_
      rintro _ _ ⟨rfl, rfl⟩
      show px_D sc (d + 3) 55 11 [(0, .inr (.inr 121)), (1, .inl (x1))] [.inl (q2)] (px_G1, s) _
      refine px_D_ifc rfl (fun hc => ?_) (fun hc => ?_)
      · have hc3 : (q2) = (0) := of_decide_eq_true hc
        rw [if_pos hc3] at h
        refine px_D_ls [] rfl rfl (fun _ h => absurd h List.not_mem_nil) ?_
        exact hk47 _ _ h
      · have hc3 : ¬ ((q2) = (0)) := of_decide_eq_false hc
        rw [if_neg hc3] at h
        refine px_D_st 4 (ip1 := 16) (ls1 := [(0, .inr (.inr 121)), (1, .inl (x1))]) (st1 := [.inl (s 121 4), .inr (.inr 122)]) (h1 := (px_G1, s)) rfl ?_
        by_cases hc4 : 0 ≤ (s 121 4) ∧ (s 121 4) < 401
        case neg => rw [if_neg hc4] at h; cases h
        rw [if_pos hc4] at h
        refine px_D_iald (k := 117) (n := 401) rfl rfl hc4 ?_
        refine px_D_st 3 (ip1 := 20) (ls1 := [(2, .inl (s 122 (s 121 4).toNat)), (0, .inr (.inr 121)), (1, .inl (x1))]) (st1 := [.inl (273), .inl (s 122 (s 121 4).toNat)]) (h1 := (px_G1, s)) rfl ?_
        refine px_D_icmp rfl (fun hc => ?_) (fun hc => ?_)
        · have hc5 : (s 122 (s 121 4).toNat) = (273) := of_decide_eq_true hc
          rw [if_pos hc5] at h
          refine px_D_st 2 (ip1 := 30) (ls1 := [(2, .inl (s 122 (s 121 4).toNat)), (0, .inr (.inr 121)), (1, .inl (x1))]) (st1 := [.inl (24), .inl (x1)]) (h1 := (px_G1, s)) rfl ?_
          refine px_D_icmp rfl (fun hc => ?_) (fun hc => ?_)
          · have hc6 : ¬ ((x1) = (24)) := of_decide_eq_true hc
            rw [if_neg hc6] at h
            refine px_D_st 1 (ip1 := 36) (ls1 := [(2, .inl (s 122 (s 121 4).toNat)), (0, .inr (.inr 121)), (1, .inl (x1))]) (st1 := [.inr (.inr 121)]) (h1 := (px_G1, s)) rfl ?_
            refine px_D_call (as := [.inr (.inr 121)]) (rest := []) rfl rfl rfl rfl ?_
            obtain ⟨q7, hq7, h⟩ := Option.bind_eq_some_iff.mp h
            refine px_D_mono (c_Reader_step (d := d + 2) hq7) ?_
            rintro _ _ ⟨rfl, rfl⟩
            show px_D sc (d + 3) 55 37 [(2, .inl (s 122 (s 121 4).toNat)), (0, .inr (.inr 121)), (1, .inl (x1))] [] (px_G1, q7) _
            refine px_D_st 3 (ip1 := 40) (ls1 := [(2, .inl (s 122 (s 121 4).toNat)), (0, .inr (.inr 121)), (1, .inl (x1))]) (st1 := [.inl (277), .inl (s 122 (s 121 4).toNat), .inr (.inr 121)]) (h1 := (px_G1, q7)) rfl ?_
            refine px_D_icmp rfl (fun hc => ?_) (fun hc => ?_)
            · have hc8 : ¬ ((s 122 (s 121 4).toNat) = (277)) := of_decide_eq_true hc
              rw [if_neg hc8] at h
              refine px_D_st 1 (ip1 := 44) (ls1 := [(2, .inl (s 122 (s 121 4).toNat)), (0, .inr (.inr 121)), (1, .inl (x1))]) (st1 := [.inl (0), .inr (.inr 121)]) (h1 := (px_G1, q7)) rfl ?_
              refine px_D_call (as := [.inr (.inr 121), .inl (0)]) (rest := []) rfl rfl rfl rfl ?_
              obtain ⟨q9, hq9, h⟩ := Option.bind_eq_some_iff.mp h
              refine px_D_mono (c_Reader_readHill (d := d + 0) hq9) ?_
              rintro _ _ ⟨rfl, rfl⟩
              show px_D sc (d + 3) 55 45 [(2, .inl (s 122 (s 121 4).toNat)), (0, .inr (.inr 121)), (1, .inl (x1))] [] (px_G1, q9) _
              refine px_D_st 2 (ip1 := 6) (ls1 := [(1, .inl (px_wr (x1 + 1))), (2, .inl (s 122 (s 121 4).toNat)), (0, .inr (.inr 121))]) (st1 := []) (h1 := (px_G1, q9)) rfl ?_
              refine px_D_ls [(0, .inr (.inr 121)), (1, .inl (px_wr (x1 + 1)))] rfl rfl (List.forall_mem_cons.mpr ⟨rfl, List.forall_mem_cons.mpr ⟨rfl, fun _ h => absurd h List.not_mem_nil⟩⟩) ?_
              exact ih _ _ _ h
            · have hc8 : (s 122 (s 121 4).toNat) = (277) := Decidable.of_not_not (of_decide_eq_false hc)
              rw [if_pos hc8] at h
              refine px_D_st 2 (ip1 := 44) (ls1 := [(2, .inl (s 122 (s 121 4).toNat)), (0, .inr (.inr 121)), (1, .inl (x1))]) (st1 := [.inl (1), .inr (.inr 121)]) (h1 := (px_G1, q7)) rfl ?_
              refine px_D_call (as := [.inr (.inr 121), .inl (1)]) (rest := []) rfl rfl rfl rfl ?_
              obtain ⟨q10, hq10, h⟩ := Option.bind_eq_some_iff.mp h
              refine px_D_mono (c_Reader_readHill (d := d + 0) hq10) ?_
              rintro _ _ ⟨rfl, rfl⟩
              show px_D sc (d + 3) 55 45 [(2, .inl (s 122 (s 121 4).toNat)), (0, .inr (.inr 121)), (1, .inl (x1))] [] (px_G1, q10) _
              refine px_D_st 2 (ip1 := 6) (ls1 := [(1, .inl (px_wr (x1 + 1))), (2, .inl (s 122 (s 121 4).toNat)), (0, .inr (.inr 121))]) (st1 := []) (h1 := (px_G1, q10)) rfl ?_
              refine px_D_ls [(0, .inr (.inr 121)), (1, .inl (px_wr (x1 + 1)))] rfl rfl (List.forall_mem_cons.mpr ⟨rfl, List.forall_mem_cons.mpr ⟨rfl, fun _ h => absurd h List.not_mem_nil⟩⟩) ?_
              exact ih _ _ _ h
          · have hc6 : (x1) = (24) := Decidable.of_not_not (of_decide_eq_false hc)
            rw [if_pos hc6] at h
            refine px_D_st 2 (ip1 := 33) (ls1 := [(2, .inl (s 122 (s 121 4).toNat)), (0, .inr (.inr 121)), (1, .inl (x1))]) (st1 := [.inl (3), .inr (.inr 121)]) (h1 := (px_G1, s)) rfl ?_
            refine px_D_call (as := [.inr (.inr 121), .inl (3)]) (rest := []) rfl rfl rfl rfl ?_
            obtain ⟨q11, hq11, h⟩ := Option.bind_eq_some_iff.mp h
            refine px_D_mono (c_Reader_fail (d := d + 2) hq11) ?_
            rintro _ _ ⟨rfl, rfl⟩
            show px_D sc (d + 3) 55 34 [(2, .inl (s 122 (s 121 4).toNat)), (0, .inr (.inr 121)), (1, .inl (x1))] [] (px_G1, q11) _
            refine px_D_st 3 (ip1 := 6) (ls1 := [(1, .inl (px_wr (x1 + 1))), (2, .inl (s 122 (s 121 4).toNat)), (0, .inr (.inr 121))]) (st1 := []) (h1 := (px_G1, q11)) rfl ?_
            refine px_D_ls [(0, .inr (.inr 121)), (1, .inl (px_wr (x1 + 1)))] rfl rfl (List.forall_mem_cons.mpr ⟨rfl, List.forall_mem_cons.mpr ⟨rfl, fun _ h => absurd h List.not_mem_nil⟩⟩) ?_
            exact ih _ _ _ h
        · have hc5 : ¬ ((s 122 (s 121 4).toNat) = (273)) := of_decide_eq_false hc
          rw [if_neg hc5] at h
          refine px_D_st 2 (ip1 := 23) (ls1 := [(2, .inl (s 122 (s 121 4).toNat)), (0, .inr (.inr 121)), (1, .inl (x1))]) (st1 := [.inl (277), .inl (s 122 (s 121 4).toNat)]) (h1 := (px_G1, s)) rfl ?_
          refine px_D_icmp rfl (fun hc => ?_) (fun hc => ?_)
          · have hc12 : (s 122 (s 121 4).toNat) = (277) := of_decide_eq_true hc
            rw [if_pos hc12] at h
            refine px_D_st 2 (ip1 := 30) (ls1 := [(2, .inl (s 122 (s 121 4).toNat)), (0, .inr (.inr 121)), (1, .inl (x1))]) (st1 := [.inl (24), .inl (x1)]) (h1 := (px_G1, s)) rfl ?_
            refine px_D_icmp rfl (fun hc => ?_) (fun hc => ?_)
            · have hc13 : ¬ ((x1) = (24)) := of_decide_eq_true hc
              rw [if_neg hc13] at h
              refine px_D_st 1 (ip1 := 36) (ls1 := [(2, .inl (s 122 (s 121 4).toNat)), (0, .inr (.inr 121)), (1, .inl (x1))]) (st1 := [.inr (.inr 121)]) (h1 := (px_G1, s)) rfl ?_
              refine px_D_call (as := [.inr (.inr 121)]) (rest := []) rfl rfl rfl rfl ?_
              obtain ⟨q14, hq14, h⟩ := Option.bind_eq_some_iff.mp h
              refine px_D_mono (c_Reader_step (d := d + 2) hq14) ?_
              rintro _ _ ⟨rfl, rfl⟩
              show px_D sc (d + 3) 55 37 [(2, .inl (s 122 (s 121 4).toNat)), (0, .inr (.inr 121)), (1, .inl (x1))] [] (px_G1, q14) _
              refine px_D_st 3 (ip1 := 40) (ls1 := [(2, .inl (s 122 (s 121 4).toNat)), (0, .inr (.inr 121)), (1, .inl (x1))]) (st1 := [.inl (277), .inl (s 122 (s 121 4).toNat), .inr (.inr 121)]) (h1 := (px_G1, q14)) rfl ?_
              refine px_D_icmp rfl (fun hc => ?_) (fun hc => ?_)
              · have hc15 : ¬ ((s 122 (s 121 4).toNat) = (277)) := of_decide_eq_true hc
                rw [if_neg hc15] at h
                refine px_D_st 1 (ip1 := 44) (ls1 := [(2, .inl (s 122 (s 121 4).toNat)), (0, .inr (.inr 121)), (1, .inl (x1))]) (st1 := [.inl (0), .inr (.inr 121)]) (h1 := (px_G1, q14)) rfl ?_
                refine px_D_call (as := [.inr (.inr 121), .inl (0)]) (rest := []) rfl rfl rfl rfl ?_
                obtain ⟨q16, hq16, h⟩ := Option.bind_eq_some_iff.mp h
                refine px_D_mono (c_Reader_readHill (d := d + 0) hq16) ?_
                rintro _ _ ⟨rfl, rfl⟩
                show px_D sc (d + 3) 55 45 [(2, .inl (s 122 (s 121 4).toNat)), (0, .inr (.inr 121)), (1, .inl (x1))] [] (px_G1, q16) _
                refine px_D_st 2 (ip1 := 6) (ls1 := [(1, .inl (px_wr (x1 + 1))), (2, .inl (s 122 (s 121 4).toNat)), (0, .inr (.inr 121))]) (st1 := []) (h1 := (px_G1, q16)) rfl ?_
                refine px_D_ls [(0, .inr (.inr 121)), (1, .inl (px_wr (x1 + 1)))] rfl rfl (List.forall_mem_cons.mpr ⟨rfl, List.forall_mem_cons.mpr ⟨rfl, fun _ h => absurd h List.not_mem_nil⟩⟩) ?_
                exact ih _ _ _ h
              · have hc15 : (s 122 (s 121 4).toNat) = (277) := Decidable.of_not_not (of_decide_eq_false hc)
                rw [if_pos hc15] at h
                refine px_D_st 2 (ip1 := 44) (ls1 := [(2, .inl (s 122 (s 121 4).toNat)), (0, .inr (.inr 121)), (1, .inl (x1))]) (st1 := [.inl (1), .inr (.inr 121)]) (h1 := (px_G1, q14)) rfl ?_
                refine px_D_call (as := [.inr (.inr 121), .inl (1)]) (rest := []) rfl rfl rfl rfl ?_
                obtain ⟨q17, hq17, h⟩ := Option.bind_eq_some_iff.mp h
                refine px_D_mono (c_Reader_readHill (d := d + 0) hq17) ?_
                rintro _ _ ⟨rfl, rfl⟩
                show px_D sc (d + 3) 55 45 [(2, .inl (s 122 (s 121 4).toNat)), (0, .inr (.inr 121)), (1, .inl (x1))] [] (px_G1, q17) _
                refine px_D_st 2 (ip1 := 6) (ls1 := [(1, .inl (px_wr (x1 + 1))), (2, .inl (s 122 (s 121 4).toNat)), (0, .inr (.inr 121))]) (st1 := []) (h1 := (px_G1, q17)) rfl ?_
                refine px_D_ls [(0, .inr (.inr 121)), (1, .inl (px_wr (x1 + 1)))] rfl rfl (List.forall_mem_cons.mpr ⟨rfl, List.forall_mem_cons.mpr ⟨rfl, fun _ h => absurd h List.not_mem_nil⟩⟩) ?_
                exact ih _ _ _ h
            · have hc13 : (x1) = (24) := Decidable.of_not_not (of_decide_eq_false hc)
              rw [if_pos hc13] at h
              refine px_D_st 2 (ip1 := 33) (ls1 := [(2, .inl (s 122 (s 121 4).toNat)), (0, .inr (.inr 121)), (1, .inl (x1))]) (st1 := [.inl (3), .inr (.inr 121)]) (h1 := (px_G1, s)) rfl ?_
              refine px_D_call (as := [.inr (.inr 121), .inl (3)]) (rest := []) rfl rfl rfl rfl ?_
              obtain ⟨q18, hq18, h⟩ := Option.bind_eq_some_iff.mp h
              refine px_D_mono (c_Reader_fail (d := d + 2) hq18) ?_
              rintro _ _ ⟨rfl, rfl⟩
              show px_D sc (d + 3) 55 34 [(2, .inl (s 122 (s 121 4).toNat)), (0, .inr (.inr 121)), (1, .inl (x1))] [] (px_G1, q18) _
              refine px_D_st 3 (ip1 := 6) (ls1 := [(1, .inl (px_wr (x1 + 1))), (2, .inl (s 122 (s 121 4).toNat)), (0, .inr (.inr 121))]) (st1 := []) (h1 := (px_G1, q18)) rfl ?_
              refine px_D_ls [(0, .inr (.inr 121)), (1, .inl (px_wr (x1 + 1)))] rfl rfl (List.forall_mem_cons.mpr ⟨rfl, List.forall_mem_cons.mpr ⟨rfl, fun _ h => absurd h List.not_mem_nil⟩⟩) ?_
              exact ih _ _ _ h
          · have hc12 : ¬ ((s 122 (s 121 4).toNat) = (277)) := of_decide_eq_false hc
            rw [if_neg hc12] at h
            refine px_D_st 2 (ip1 := 26) (ls1 := [(2, .inl (s 122 (s 121 4).toNat)), (0, .inr (.inr 121)), (1, .inl (x1))]) (st1 := [.inl (1), .inr (.inr 121)]) (h1 := (px_G1, s)) rfl ?_
            refine px_D_call (as := [.inr (.inr 121), .inl (1)]) (rest := []) rfl rfl rfl rfl ?_
            obtain ⟨q19, hq19, h⟩ := Option.bind_eq_some_iff.mp h
            refine px_D_mono (c_Reader_fail (d := d + 2) hq19) ?_
            rintro _ _ ⟨rfl, rfl⟩
            show px_D sc (d + 3) 55 27 [(2, .inl (s 122 (s 121 4).toNat)), (0, .inr (.inr 121)), (1, .inl (x1))] [] (px_G1, q19) _
            refine px_D_st 3 (ip1 := 6) (ls1 := [(1, .inl (px_wr (x1 + 1))), (2, .inl (s 122 (s 121 4).toNat)), (0, .inr (.inr 121))]) (st1 := []) (h1 := (px_G1, q19)) rfl ?_
            refine px_D_ls [(0, .inr (.inr 121)), (1, .inl (px_wr (x1 + 1)))] rfl rfl (List.forall_mem_cons.mpr ⟨rfl, List.forall_mem_cons.mpr ⟨rfl, fun _ h => absurd h List.not_mem_nil⟩⟩) ?_
            exact ih _ _ _ h
def f_Reader_readHills (s : px_Z) : Option (px_Z) := l_Reader_readHills_6 (fun s => some s) px_big (px_up s 132 0 0) 0
set_option maxHeartbeats 4000000 in
set_option maxRecDepth 100000 in
theorem c_Reader_readHills {sc : List Int} {d : Nat} {s : px_Z} {out : px_Z} (h : f_Reader_readHills s  = some out) : px_D sc (d + 3) 55 0 [(0, .inr (.inr 121))] [] (px_G1, s) (px_Qv out) := by
  unfold f_Reader_readHills at h
  refine px_D_st 6 (ip1 := 6) (ls1 := [(1, .inl (0)), (0, .inr (.inr 121))]) (st1 := []) (h1 := (px_G1, px_up s 132 0 0)) rfl ?_
  refine px_D_ls [(0, .inr (.inr 121)), (1, .inl (0))] rfl rfl (List.forall_mem_cons.mpr ⟨rfl, List.forall_mem_cons.mpr ⟨rfl, fun _ h => absurd h List.not_mem_nil⟩⟩) ?_
  refine cl_Reader_readHills_6 ?_ px_big _ _ _ h
  · intro s out h
    cases h
    exact px_D_vret rfl ⟨rfl, rfl⟩

def f_Hills_become (s : px_Z) : Option (px_Z) := some (px_cp (px_cp (px_cp (px_cp (px_cp (px_up s 28 0 (s 132 0)) 133 29 0 0 24) 134 30 0 0 24) 135 31 0 0 24) 136 32 0 0 24) 137 33 0 0 24)
set_option maxHeartbeats 4000000 in
set_option maxRecDepth 100000 in
theorem c_Hills_become {sc : List Int} {d : Nat} {s : px_Z} {out : px_Z} (h : f_Hills_become s  = some out) : px_D sc (d + 0) 4 0 [(0, .inr (.inr 28)), (1, .inr (.inr 132))] [] (px_G1, s) (px_Qv out) := by
  unfold f_Hills_become at h
  refine px_D_st 44 (ip1 := 44) (ls1 := [(0, .inr (.inr 28)), (1, .inr (.inr 132))]) (st1 := []) (h1 := (px_G1, px_cp (px_cp (px_cp (px_cp (px_cp (px_up s 28 0 (s 132 0)) 133 29 0 0 24) 134 30 0 0 24) 135 31 0 0 24) 136 32 0 0 24) 137 33 0 0 24)) rfl ?_
  cases h
  exact px_D_vret rfl ⟨rfl, rfl⟩

def f_World_tellAfter (s : px_Z) (x2 : Int) : Option (px_Z) := some (px_up (px_cp s 142 13 0 0 8) 6 7 x2)
set_option maxHeartbeats 4000000 in
set_option maxRecDepth 100000 in
theorem c_World_tellAfter {sc : List Int} {d : Nat} {s : px_Z} {x2 : Int} {out : px_Z} (h : f_World_tellAfter s x2 = some out) : px_D sc (d + 0) 80 0 [(0, .inr (.inr 6)), (1, .inr (.inr 142)), (2, .inl (x2))] [] (px_G1, s) (px_Qv out) := by
  unfold f_World_tellAfter at h
  refine px_D_st 10 (ip1 := 10) (ls1 := [(0, .inr (.inr 6)), (1, .inr (.inr 142)), (2, .inl (x2))]) (st1 := []) (h1 := (px_G1, px_up (px_cp s 142 13 0 0 8) 6 7 x2)) rfl ?_
  cases h
  exact px_D_vret rfl ⟨rfl, rfl⟩

def f_Law_become (s : px_Z) : Option (px_Z) := some (px_cp (px_cp (px_cp (px_cp (px_cp (px_up (px_up s 21 0 (s 125 0)) 21 1 ((px_up s 21 0 (s 125 0)) 125 1)) 126 22 0 0 16) 127 23 0 0 16) 128 24 0 0 16) 129 25 0 0 16) 130 26 0 0 400)
set_option maxHeartbeats 4000000 in
set_option maxRecDepth 100000 in
theorem c_Law_become {sc : List Int} {d : Nat} {s : px_Z} {out : px_Z} (h : f_Law_become s  = some out) : px_D sc (d + 0) 13 0 [(0, .inr (.inr 21)), (1, .inr (.inr 125))] [] (px_G1, s) (px_Qv out) := by
  unfold f_Law_become at h
  refine px_D_st 48 (ip1 := 48) (ls1 := [(0, .inr (.inr 21)), (1, .inr (.inr 125))]) (st1 := []) (h1 := (px_G1, px_cp (px_cp (px_cp (px_cp (px_cp (px_up (px_up s 21 0 (s 125 0)) 21 1 ((px_up s 21 0 (s 125 0)) 125 1)) 126 22 0 0 16) 127 23 0 0 16) 128 24 0 0 16) 129 25 0 0 16) 130 26 0 0 400)) rfl ?_
  cases h
  exact px_D_vret rfl ⟨rfl, rfl⟩

def f_Plan_become (s : px_Z) : Option (px_Z) := some (px_cp (px_cp (px_cp (px_up s 34 0 (s 138 0)) 139 35 0 0 60) 140 36 0 0 60) 141 37 0 0 60)
set_option maxHeartbeats 4000000 in
set_option maxRecDepth 100000 in
theorem c_Plan_become {sc : List Int} {d : Nat} {s : px_Z} {out : px_Z} (h : f_Plan_become s  = some out) : px_D sc (d + 0) 35 0 [(0, .inr (.inr 34)), (1, .inr (.inr 138))] [] (px_G1, s) (px_Qv out) := by
  unfold f_Plan_become at h
  refine px_D_st 28 (ip1 := 28) (ls1 := [(0, .inr (.inr 34)), (1, .inr (.inr 138))]) (st1 := []) (h1 := (px_G1, px_cp (px_cp (px_cp (px_up s 34 0 (s 138 0)) 139 35 0 0 60) 140 36 0 0 60) 141 37 0 0 60)) rfl ?_
  cases h
  exact px_D_vret rfl ⟨rfl, rfl⟩

def f_Law_become_2 (s : px_Z) : Option (px_Z) := some (px_cp (px_cp (px_cp (px_cp (px_cp (px_up (px_up s 14 0 (s 125 0)) 14 1 ((px_up s 14 0 (s 125 0)) 125 1)) 126 15 0 0 16) 127 16 0 0 16) 128 17 0 0 16) 129 18 0 0 16) 130 19 0 0 400)
set_option maxHeartbeats 4000000 in
set_option maxRecDepth 100000 in
theorem c_Law_become_2 {sc : List Int} {d : Nat} {s : px_Z} {out : px_Z} (h : f_Law_become_2 s  = some out) : px_D sc (d + 0) 13 0 [(0, .inr (.inr 14)), (1, .inr (.inr 125))] [] (px_G1, s) (px_Qv out) := by
  unfold f_Law_become_2 at h
  refine px_D_st 48 (ip1 := 48) (ls1 := [(0, .inr (.inr 14)), (1, .inr (.inr 125))]) (st1 := []) (h1 := (px_G1, px_cp (px_cp (px_cp (px_cp (px_cp (px_up (px_up s 14 0 (s 125 0)) 14 1 ((px_up s 14 0 (s 125 0)) 125 1)) 126 15 0 0 16) 127 16 0 0 16) 128 17 0 0 16) 129 18 0 0 16) 130 19 0 0 400)) rfl ?_
  cases h
  exact px_D_vret rfl ⟨rfl, rfl⟩

def j_R_takeText_j5 (s : px_Z) (x1 : Int) : Option (Int × px_Z) := (f_Least_forget s ).bind (fun q2 => if (x1) = 0 then (f_Law_become_2 q2 ).bind (fun q4 => some (q4 14 0, q4)) else (if (x1) = 1 then (f_Law_become q2 ).bind (fun q6 => some (q6 21 0, q6)) else (if (x1) = 2 then (f_Hills_become q2 ).bind (fun q8 => some (q8 28 0, q8)) else (if (x1) = 3 then (f_World_tellAfter q2 (q2 121 13)).bind (fun q10 => some (q10 6 7, q10)) else (f_Plan_become q2 ).bind (fun q11 => some (q11 34 0, q11))))))
set_option maxHeartbeats 4000000 in
set_option maxRecDepth 100000 in
theorem cj_R_takeText_j5 {sc : List Int} {d : Nat} {s : px_Z} {x1 : Int} {out : Int × px_Z} (h : j_R_takeText_j5 s x1 = some out) : px_D sc (d + 2) 112 5 [(0, .inr (.inr 5)), (1, .inl (x1))] [] (px_G1, s) (px_Qi out) := by
  unfold j_R_takeText_j5 at h
  refine px_D_st 2 (ip1 := 7) (ls1 := [(0, .inr (.inr 5)), (1, .inl (x1))]) (st1 := [.inr (.inr 145)]) (h1 := (px_G1, s)) rfl ?_
  refine px_D_call (as := [.inr (.inr 145)]) (rest := []) rfl rfl rfl rfl ?_
  obtain ⟨q2, hq2, h⟩ := Option.bind_eq_some_iff.mp h
  refine px_D_mono (c_Least_forget (d := d + 1) hq2) ?_
  rintro _ _ ⟨rfl, rfl⟩
  show px_D sc (d + 2) 112 8 [(0, .inr (.inr 5)), (1, .inl (x1))] [] (px_G1, q2) _
  refine px_D_st 1 (ip1 := 9) (ls1 := [(0, .inr (.inr 5)), (1, .inl (x1))]) (st1 := [.inl (x1)]) (h1 := (px_G1, q2)) rfl ?_
  by_cases hc3 : (x1) = 0
  · rw [if_pos hc3] at h
    refine px_D_tsw (c := 0) rfl hc3 (by decide) rfl ?_
    refine px_D_st 6 (ip1 := 16) (ls1 := [(0, .inr (.inr 5)), (1, .inl (x1))]) (st1 := [.inr (.inr 125), .inr (.inr 14)]) (h1 := (px_G1, q2)) rfl ?_
    refine px_D_call (as := [.inr (.inr 14), .inr (.inr 125)]) (rest := []) rfl rfl rfl rfl ?_
    obtain ⟨q4, hq4, h⟩ := Option.bind_eq_some_iff.mp h
    refine px_D_mono (c_Law_become_2 (d := d + 1) hq4) ?_
    rintro _ _ ⟨rfl, rfl⟩
    show px_D sc (d + 2) 112 17 [(0, .inr (.inr 5)), (1, .inl (x1))] [] (px_G1, q4) _
    refine px_D_st 4 (ip1 := 21) (ls1 := [(0, .inr (.inr 5)), (1, .inl (x1))]) (st1 := [.inl (q4 14 0)]) (h1 := (px_G1, q4)) rfl ?_
    cases h
    exact px_D_iret rfl rfl ⟨rfl, rfl⟩
  rw [if_neg hc3] at h
  by_cases hc5 : (x1) = 1
  · rw [if_pos hc5] at h
    refine px_D_tsw (c := 1) rfl hc5 (by decide) rfl ?_
    refine px_D_st 6 (ip1 := 28) (ls1 := [(0, .inr (.inr 5)), (1, .inl (x1))]) (st1 := [.inr (.inr 125), .inr (.inr 21)]) (h1 := (px_G1, q2)) rfl ?_
    refine px_D_call (as := [.inr (.inr 21), .inr (.inr 125)]) (rest := []) rfl rfl rfl rfl ?_
    obtain ⟨q6, hq6, h⟩ := Option.bind_eq_some_iff.mp h
    refine px_D_mono (c_Law_become (d := d + 1) hq6) ?_
    rintro _ _ ⟨rfl, rfl⟩
    show px_D sc (d + 2) 112 29 [(0, .inr (.inr 5)), (1, .inl (x1))] [] (px_G1, q6) _
    refine px_D_st 4 (ip1 := 33) (ls1 := [(0, .inr (.inr 5)), (1, .inl (x1))]) (st1 := [.inl (q6 21 0)]) (h1 := (px_G1, q6)) rfl ?_
    cases h
    exact px_D_iret rfl rfl ⟨rfl, rfl⟩
  rw [if_neg hc5] at h
  by_cases hc7 : (x1) = 2
  · rw [if_pos hc7] at h
    refine px_D_tsw (c := 2) rfl hc7 (by decide) rfl ?_
    refine px_D_st 6 (ip1 := 40) (ls1 := [(0, .inr (.inr 5)), (1, .inl (x1))]) (st1 := [.inr (.inr 132), .inr (.inr 28)]) (h1 := (px_G1, q2)) rfl ?_
    refine px_D_call (as := [.inr (.inr 28), .inr (.inr 132)]) (rest := []) rfl rfl rfl rfl ?_
    obtain ⟨q8, hq8, h⟩ := Option.bind_eq_some_iff.mp h
    refine px_D_mono (c_Hills_become (d := d + 1) hq8) ?_
    rintro _ _ ⟨rfl, rfl⟩
    show px_D sc (d + 2) 112 41 [(0, .inr (.inr 5)), (1, .inl (x1))] [] (px_G1, q8) _
    refine px_D_st 4 (ip1 := 45) (ls1 := [(0, .inr (.inr 5)), (1, .inl (x1))]) (st1 := [.inl (q8 28 0)]) (h1 := (px_G1, q8)) rfl ?_
    cases h
    exact px_D_iret rfl rfl ⟨rfl, rfl⟩
  rw [if_neg hc7] at h
  by_cases hc9 : (x1) = 3
  · rw [if_pos hc9] at h
    refine px_D_tsw (c := 3) rfl hc9 (by decide) rfl ?_
    refine px_D_st 8 (ip1 := 54) (ls1 := [(0, .inr (.inr 5)), (1, .inl (x1))]) (st1 := [.inl (q2 121 13), .inr (.inr 142), .inr (.inr 6)]) (h1 := (px_G1, q2)) rfl ?_
    refine px_D_call (as := [.inr (.inr 6), .inr (.inr 142), .inl (q2 121 13)]) (rest := []) rfl rfl rfl rfl ?_
    obtain ⟨q10, hq10, h⟩ := Option.bind_eq_some_iff.mp h
    refine px_D_mono (c_World_tellAfter (d := d + 1) hq10) ?_
    rintro _ _ ⟨rfl, rfl⟩
    show px_D sc (d + 2) 112 55 [(0, .inr (.inr 5)), (1, .inl (x1))] [] (px_G1, q10) _
    refine px_D_st 3 (ip1 := 58) (ls1 := [(0, .inr (.inr 5)), (1, .inl (x1))]) (st1 := [.inl (q10 6 7)]) (h1 := (px_G1, q10)) rfl ?_
    cases h
    exact px_D_iret rfl rfl ⟨rfl, rfl⟩
  rw [if_neg hc9] at h
  refine px_D_tswD rfl (by omega) ?_
  refine px_D_st 6 (ip1 := 65) (ls1 := [(0, .inr (.inr 5)), (1, .inl (x1))]) (st1 := [.inr (.inr 138), .inr (.inr 34)]) (h1 := (px_G1, q2)) rfl ?_
  refine px_D_call (as := [.inr (.inr 34), .inr (.inr 138)]) (rest := []) rfl rfl rfl rfl ?_
  obtain ⟨q11, hq11, h⟩ := Option.bind_eq_some_iff.mp h
  refine px_D_mono (c_Plan_become (d := d + 1) hq11) ?_
  rintro _ _ ⟨rfl, rfl⟩
  show px_D sc (d + 2) 112 66 [(0, .inr (.inr 5)), (1, .inl (x1))] [] (px_G1, q11) _
  refine px_D_st 4 (ip1 := 70) (ls1 := [(0, .inr (.inr 5)), (1, .inl (x1))]) (st1 := [.inl (q11 34 0)]) (h1 := (px_G1, q11)) rfl ?_
  cases h
  exact px_D_iret rfl rfl ⟨rfl, rfl⟩
def f_R_takeText (s : px_Z) (x1 : Int) : Option (Int × px_Z) := if (x1) ≤ (1) then j_R_takeText_j5 s x1 else (f_R_forgetDeeds s ).bind (fun q12 => j_R_takeText_j5 q12 x1)
set_option maxHeartbeats 4000000 in
set_option maxRecDepth 100000 in
theorem c_R_takeText {sc : List Int} {d : Nat} {s : px_Z} {x1 : Int} {out : Int × px_Z} (h : f_R_takeText s x1 = some out) : px_D sc (d + 2) 112 0 [(0, .inr (.inr 5)), (1, .inl (x1))] [] (px_G1, s) (px_Qi out) := by
  unfold f_R_takeText at h
  refine px_D_st 2 (ip1 := 2) (ls1 := [(0, .inr (.inr 5)), (1, .inl (x1))]) (st1 := [.inl (1), .inl (x1)]) (h1 := (px_G1, s)) rfl ?_
  refine px_D_icmp rfl (fun hc => ?_) (fun hc => ?_)
  · have hc1 : (x1) ≤ (1) := of_decide_eq_true hc
    rw [if_pos hc1] at h
    refine px_D_ls [(0, .inr (.inr 5)), (1, .inl (x1))] rfl rfl (List.forall_mem_cons.mpr ⟨rfl, List.forall_mem_cons.mpr ⟨rfl, fun _ h => absurd h List.not_mem_nil⟩⟩) ?_
    exact cj_R_takeText_j5 h
  · have hc1 : ¬ ((x1) ≤ (1)) := of_decide_eq_false hc
    rw [if_neg hc1] at h
    refine px_D_st 1 (ip1 := 4) (ls1 := [(0, .inr (.inr 5)), (1, .inl (x1))]) (st1 := [.inr (.inr 5)]) (h1 := (px_G1, s)) rfl ?_
    refine px_D_call (as := [.inr (.inr 5)]) (rest := []) rfl rfl rfl rfl ?_
    obtain ⟨q12, hq12, h⟩ := Option.bind_eq_some_iff.mp h
    refine px_D_mono (c_R_forgetDeeds (d := d + 0) hq12) ?_
    rintro _ _ ⟨rfl, rfl⟩
    show px_D sc (d + 2) 112 5 [(0, .inr (.inr 5)), (1, .inl (x1))] [] (px_G1, q12) _
    refine px_D_ls [(0, .inr (.inr 5)), (1, .inl (x1))] rfl rfl (List.forall_mem_cons.mpr ⟨rfl, List.forall_mem_cons.mpr ⟨rfl, fun _ h => absurd h List.not_mem_nil⟩⟩) ?_
    exact cj_R_takeText_j5 h

def f_Reader_addToken (s : px_Z) (x1 : Int) (x2 : Int) (x3 : Int) : Option (px_Z) := if (401) ≤ (s 121 3) then some s else (if 0 ≤ (s 121 3) ∧ (s 121 3) < 401 then if 0 ≤ ((px_up s 122 (s 121 3).toNat x1) 121 3) ∧ ((px_up s 122 (s 121 3).toNat x1) 121 3) < 401 then if 0 ≤ ((px_up (px_up s 122 (s 121 3).toNat x1) 123 ((px_up s 122 (s 121 3).toNat x1) 121 3).toNat x2) 121 3) ∧ ((px_up (px_up s 122 (s 121 3).toNat x1) 123 ((px_up s 122 (s 121 3).toNat x1) 121 3).toNat x2) 121 3) < 401 then some (px_up (px_up (px_up (px_up s 122 (s 121 3).toNat x1) 123 ((px_up s 122 (s 121 3).toNat x1) 121 3).toNat x2) 124 ((px_up (px_up s 122 (s 121 3).toNat x1) 123 ((px_up s 122 (s 121 3).toNat x1) 121 3).toNat x2) 121 3).toNat x3) 121 3 (px_wr (((px_up (px_up (px_up s 122 (s 121 3).toNat x1) 123 ((px_up s 122 (s 121 3).toNat x1) 121 3).toNat x2) 124 ((px_up (px_up s 122 (s 121 3).toNat x1) 123 ((px_up s 122 (s 121 3).toNat x1) 121 3).toNat x2) 121 3).toNat x3) 121 3) + 1))) else none else none else none)
set_option maxHeartbeats 4000000 in
set_option maxRecDepth 100000 in
theorem c_Reader_addToken {sc : List Int} {d : Nat} {s : px_Z} {x1 : Int} {x2 : Int} {x3 : Int} {out : px_Z} (h : f_Reader_addToken s x1 x2 x3 = some out) : px_D sc (d + 0) 40 0 [(0, .inr (.inr 121)), (1, .inl (x1)), (2, .inl (x2)), (3, .inl (x3))] [] (px_G1, s) (px_Qv out) := by
  unfold f_Reader_addToken at h
  refine px_D_st 5 (ip1 := 5) (ls1 := [(0, .inr (.inr 121)), (1, .inl (x1)), (2, .inl (x2)), (3, .inl (x3))]) (st1 := [.inl (401), .inl (s 121 3)]) (h1 := (px_G1, s)) rfl ?_
  refine px_D_icmp rfl (fun hc => ?_) (fun hc => ?_)
  · have hc1 : (401) ≤ (s 121 3) := of_decide_eq_true hc
    rw [if_pos hc1] at h
    cases h
    exact px_D_vret rfl ⟨rfl, rfl⟩
  · have hc1 : ¬ ((401) ≤ (s 121 3)) := of_decide_eq_false hc
    rw [if_neg hc1] at h
    refine px_D_st 5 (ip1 := 11) (ls1 := [(0, .inr (.inr 121)), (1, .inl (x1)), (2, .inl (x2)), (3, .inl (x3))]) (st1 := [.inl (x1), .inl (s 121 3), .inr (.inr 122)]) (h1 := (px_G1, s)) rfl ?_
    by_cases hc2 : 0 ≤ (s 121 3) ∧ (s 121 3) < 401
    case neg => rw [if_neg hc2] at h; cases h
    rw [if_pos hc2] at h
    refine px_D_iast (k := 117) (n := 401) rfl rfl hc2 ?_
    refine px_D_st 5 (ip1 := 17) (ls1 := [(0, .inr (.inr 121)), (1, .inl (x1)), (2, .inl (x2)), (3, .inl (x3))]) (st1 := [.inl (x2), .inl ((px_up s 122 (s 121 3).toNat x1) 121 3), .inr (.inr 123)]) (h1 := (px_G1, px_up s 122 (s 121 3).toNat x1)) rfl ?_
    by_cases hc3 : 0 ≤ ((px_up s 122 (s 121 3).toNat x1) 121 3) ∧ ((px_up s 122 (s 121 3).toNat x1) 121 3) < 401
    case neg => rw [if_neg hc3] at h; cases h
    rw [if_pos hc3] at h
    refine px_D_iast (k := 118) (n := 401) rfl rfl hc3 ?_
    refine px_D_st 5 (ip1 := 23) (ls1 := [(0, .inr (.inr 121)), (1, .inl (x1)), (2, .inl (x2)), (3, .inl (x3))]) (st1 := [.inl (x3), .inl ((px_up (px_up s 122 (s 121 3).toNat x1) 123 ((px_up s 122 (s 121 3).toNat x1) 121 3).toNat x2) 121 3), .inr (.inr 124)]) (h1 := (px_G1, px_up (px_up s 122 (s 121 3).toNat x1) 123 ((px_up s 122 (s 121 3).toNat x1) 121 3).toNat x2)) rfl ?_
    by_cases hc4 : 0 ≤ ((px_up (px_up s 122 (s 121 3).toNat x1) 123 ((px_up s 122 (s 121 3).toNat x1) 121 3).toNat x2) 121 3) ∧ ((px_up (px_up s 122 (s 121 3).toNat x1) 123 ((px_up s 122 (s 121 3).toNat x1) 121 3).toNat x2) 121 3) < 401
    case neg => rw [if_neg hc4] at h; cases h
    rw [if_pos hc4] at h
    refine px_D_iast (k := 119) (n := 401) rfl rfl hc4 ?_
    refine px_D_st 6 (ip1 := 30) (ls1 := [(0, .inr (.inr 121)), (1, .inl (x1)), (2, .inl (x2)), (3, .inl (x3))]) (st1 := []) (h1 := (px_G1, px_up (px_up (px_up (px_up s 122 (s 121 3).toNat x1) 123 ((px_up s 122 (s 121 3).toNat x1) 121 3).toNat x2) 124 ((px_up (px_up s 122 (s 121 3).toNat x1) 123 ((px_up s 122 (s 121 3).toNat x1) 121 3).toNat x2) 121 3).toNat x3) 121 3 (px_wr (((px_up (px_up (px_up s 122 (s 121 3).toNat x1) 123 ((px_up s 122 (s 121 3).toNat x1) 121 3).toNat x2) 124 ((px_up (px_up s 122 (s 121 3).toNat x1) 123 ((px_up s 122 (s 121 3).toNat x1) 121 3).toNat x2) 121 3).toNat x3) 121 3) + 1)))) rfl ?_
    cases h
    exact px_D_vret rfl ⟨rfl, rfl⟩

def f_Reader_isLetter (s : px_Z) (x0 : Int) : Int := if (x0) < (97) then (if (x0) < (65) then 0 else (if (90) < (x0) then 0 else 1)) else (if (x0) ≤ (122) then 1 else (if (x0) < (65) then 0 else (if (90) < (x0) then 0 else 1)))
set_option maxHeartbeats 4000000 in
set_option maxRecDepth 100000 in
theorem c_Reader_isLetter {sc : List Int} {d : Nat} {s : px_Z} {x0 : Int} {out : Int} (h : f_Reader_isLetter s x0 = out) : px_D sc (d + 0) 42 0 [(0, .inl (x0))] [] (px_G1, s) (px_Qp s out) := by
  unfold f_Reader_isLetter at h
  refine px_D_st 2 (ip1 := 2) (ls1 := [(0, .inl (x0))]) (st1 := [.inl (97), .inl (x0)]) (h1 := (px_G1, s)) rfl ?_
  refine px_D_icmp rfl (fun hc => ?_) (fun hc => ?_)
  · have hc1 : (x0) < (97) := of_decide_eq_true hc
    rw [if_pos hc1] at h
    refine px_D_st 2 (ip1 := 8) (ls1 := [(0, .inl (x0))]) (st1 := [.inl (65), .inl (x0)]) (h1 := (px_G1, s)) rfl ?_
    refine px_D_icmp rfl (fun hc => ?_) (fun hc => ?_)
    · have hc2 : (x0) < (65) := of_decide_eq_true hc
      rw [if_pos hc2] at h
      refine px_D_st 1 (ip1 := 15) (ls1 := [(0, .inl (x0))]) (st1 := [.inl (0)]) (h1 := (px_G1, s)) rfl ?_
      subst h
      exact px_D_iret rfl rfl ⟨rfl, rfl⟩
    · have hc2 : ¬ ((x0) < (65)) := of_decide_eq_false hc
      rw [if_neg hc2] at h
      refine px_D_st 2 (ip1 := 11) (ls1 := [(0, .inl (x0))]) (st1 := [.inl (90), .inl (x0)]) (h1 := (px_G1, s)) rfl ?_
      refine px_D_icmp rfl (fun hc => ?_) (fun hc => ?_)
      · have hc3 : (90) < (x0) := of_decide_eq_true hc
        rw [if_pos hc3] at h
        refine px_D_st 1 (ip1 := 15) (ls1 := [(0, .inl (x0))]) (st1 := [.inl (0)]) (h1 := (px_G1, s)) rfl ?_
        subst h
        exact px_D_iret rfl rfl ⟨rfl, rfl⟩
      · have hc3 : ¬ ((90) < (x0)) := of_decide_eq_false hc
        rw [if_neg hc3] at h
        refine px_D_st 2 (ip1 := 15) (ls1 := [(0, .inl (x0))]) (st1 := [.inl (1)]) (h1 := (px_G1, s)) rfl ?_
        subst h
        exact px_D_iret rfl rfl ⟨rfl, rfl⟩
  · have hc1 : ¬ ((x0) < (97)) := of_decide_eq_false hc
    rw [if_neg hc1] at h
    refine px_D_st 2 (ip1 := 5) (ls1 := [(0, .inl (x0))]) (st1 := [.inl (122), .inl (x0)]) (h1 := (px_G1, s)) rfl ?_
    refine px_D_icmp rfl (fun hc => ?_) (fun hc => ?_)
    · have hc4 : (x0) ≤ (122) := of_decide_eq_true hc
      rw [if_pos hc4] at h
      refine px_D_st 2 (ip1 := 15) (ls1 := [(0, .inl (x0))]) (st1 := [.inl (1)]) (h1 := (px_G1, s)) rfl ?_
      subst h
      exact px_D_iret rfl rfl ⟨rfl, rfl⟩
    · have hc4 : ¬ ((x0) ≤ (122)) := of_decide_eq_false hc
      rw [if_neg hc4] at h
      refine px_D_st 2 (ip1 := 8) (ls1 := [(0, .inl (x0))]) (st1 := [.inl (65), .inl (x0)]) (h1 := (px_G1, s)) rfl ?_
      refine px_D_icmp rfl (fun hc => ?_) (fun hc => ?_)
      · have hc5 : (x0) < (65) := of_decide_eq_true hc
        rw [if_pos hc5] at h
        refine px_D_st 1 (ip1 := 15) (ls1 := [(0, .inl (x0))]) (st1 := [.inl (0)]) (h1 := (px_G1, s)) rfl ?_
        subst h
        exact px_D_iret rfl rfl ⟨rfl, rfl⟩
      · have hc5 : ¬ ((x0) < (65)) := of_decide_eq_false hc
        rw [if_neg hc5] at h
        refine px_D_st 2 (ip1 := 11) (ls1 := [(0, .inl (x0))]) (st1 := [.inl (90), .inl (x0)]) (h1 := (px_G1, s)) rfl ?_
        refine px_D_icmp rfl (fun hc => ?_) (fun hc => ?_)
        · have hc6 : (90) < (x0) := of_decide_eq_true hc
          rw [if_pos hc6] at h
          refine px_D_st 1 (ip1 := 15) (ls1 := [(0, .inl (x0))]) (st1 := [.inl (0)]) (h1 := (px_G1, s)) rfl ?_
          subst h
          exact px_D_iret rfl rfl ⟨rfl, rfl⟩
        · have hc6 : ¬ ((90) < (x0)) := of_decide_eq_false hc
          rw [if_neg hc6] at h
          refine px_D_st 2 (ip1 := 15) (ls1 := [(0, .inl (x0))]) (st1 := [.inl (1)]) (h1 := (px_G1, s)) rfl ?_
          subst h
          exact px_D_iret rfl rfl ⟨rfl, rfl⟩
set_option maxHeartbeats 4000000 in
set_option maxRecDepth 100000 in
theorem bz_Reader_isLetter {s : px_Z} {x0 : Int} : f_Reader_isLetter s x0 = 0 ∨ f_Reader_isLetter s x0 = 1 := by
  unfold f_Reader_isLetter
  repeat' split
  all_goals first | exact Or.inl rfl | exact Or.inr rfl | exact Or.inl rfl

def l_Reader_keyword_8 (s : px_Z) (k40 : Int → Option (Int)) (k49 : Option (Int)) : Nat → Int → Int → Int → Int → Int → Int → Option (Int)
  | 0, _, _, _, _, _, _ => none
  | n + 1, x1, x2, x3, x4, x5, x6 => if (((px_tx 0).length : Nat)) ≤ (x6) then k49  else (if 0 ≤ (x6) then ((px_tx 0)[(x6).toNat]?).bind (fun q3 => if (q3) = (32) then (if (x5) = (0) then l_Reader_keyword_8 s k40 k49 n x1 x2 (px_wr (x3 + 1)) x1 1 (px_wr (x6 + 1)) else (if (x4) = (x2) then k40 x3 else l_Reader_keyword_8 s k40 k49 n x1 x2 (px_wr (x3 + 1)) x1 1 (px_wr (x6 + 1)))) else (if (x5) = (0) then l_Reader_keyword_8 s k40 k49 n x1 x2 x3 (px_wr (x4 + 1)) 0 (px_wr (x6 + 1)) else (if (x2) ≤ (x4) then l_Reader_keyword_8 s k40 k49 n x1 x2 x3 (px_wr (x4 + 1)) 0 (px_wr (x6 + 1)) else (if 0 ≤ (x4) ∧ (x4) < 400 then if (s 120 x4.toNat) = (q3) then l_Reader_keyword_8 s k40 k49 n x1 x2 x3 (px_wr (x4 + 1)) 1 (px_wr (x6 + 1)) else l_Reader_keyword_8 s k40 k49 n x1 x2 x3 (px_wr (x4 + 1)) 0 (px_wr (x6 + 1)) else none)))) else none)
set_option maxHeartbeats 4000000 in
set_option maxRecDepth 100000 in
theorem cl_Reader_keyword_8 {sc : List Int} {d : Nat} {s : px_Z} {k40 : Int → Option (Int)} {k49 : Option (Int)}  (hk40 : ∀ (y3 : Int) (out : Int), k40 y3 = some out → px_D sc (d + 0) 43 40 [(3, .inl (y3))] [] (px_G1, s) (px_Qp s out)) (hk49 : ∀ (out : Int), k49  = some out → px_D sc (d + 0) 43 49 [] [] (px_G1, s) (px_Qp s out)) : ∀ (n : Nat) (x1 : Int) (x2 : Int) (x3 : Int) (x4 : Int) (x5 : Int) (x6 : Int) (out : Int), l_Reader_keyword_8 s k40 k49 n x1 x2 x3 x4 x5 x6 = some out → px_D sc (d + 0) 43 8 [(0, .inr (.inr 120)), (1, .inl (x1)), (2, .inl (x2)), (3, .inl (x3)), (4, .inl (x4)), (5, .inl (x5)), (6, .inl (x6))] [] (px_G1, s) (px_Qp s out) := by
  intro n
  induction n with
  | zero => intro x1 x2 x3 x4 x5 x6 out h; cases h
  | succ n ih =>
    intro x1 x2 x3 x4 x5 x6 out h
    rw [l_Reader_keyword_8] at h
    refine px_D_st 2 (ip1 := 11) (ls1 := [(0, .inr (.inr 120)), (1, .inl (x1)), (2, .inl (x2)), (3, .inl (x3)), (4, .inl (x4)), (5, .inl (x5)), (6, .inl (x6))]) (st1 := [.inl (((px_tx 0).length : Nat)), .inl (x6)]) (h1 := (px_G1, s)) rfl ?_
    refine px_D_icmp rfl (fun hc => ?_) (fun hc => ?_)
    · have hc1 : (((px_tx 0).length : Nat)) ≤ (x6) := of_decide_eq_true hc
      rw [if_pos hc1] at h
      refine px_D_ls [] rfl rfl (fun _ h => absurd h List.not_mem_nil) ?_
      exact hk49 _ h
    · have hc1 : ¬ ((((px_tx 0).length : Nat)) ≤ (x6)) := of_decide_eq_false hc
      rw [if_neg hc1] at h
      by_cases hc2 : 0 ≤ (x6)
      case neg => rw [if_neg hc2] at h; cases h
      rw [if_pos hc2] at h
      obtain ⟨q3, hq3, h⟩ := Option.bind_eq_some_iff.mp h
      refine px_D_chr (j := x6) rfl rfl hc2 (by decide) hq3 ?_
      refine px_D_st 3 (ip1 := 18) (ls1 := [(7, .inl (q3)), (0, .inr (.inr 120)), (1, .inl (x1)), (2, .inl (x2)), (3, .inl (x3)), (4, .inl (x4)), (5, .inl (x5)), (6, .inl (x6))]) (st1 := [.inl (32), .inl (q3)]) (h1 := (px_G1, s)) rfl ?_
      refine px_D_icmp rfl (fun hc => ?_) (fun hc => ?_)
      · have hc4 : (q3) = (32) := of_decide_eq_true hc
        rw [if_pos hc4] at h
        refine px_D_st 1 (ip1 := 36) (ls1 := [(7, .inl (q3)), (0, .inr (.inr 120)), (1, .inl (x1)), (2, .inl (x2)), (3, .inl (x3)), (4, .inl (x4)), (5, .inl (x5)), (6, .inl (x6))]) (st1 := [.inl (x5)]) (h1 := (px_G1, s)) rfl ?_
        refine px_D_ifc rfl (fun hc => ?_) (fun hc => ?_)
        · have hc5 : (x5) = (0) := of_decide_eq_true hc
          rw [if_pos hc5] at h
          refine px_D_st 7 (ip1 := 8) (ls1 := [(6, .inl (px_wr (x6 + 1))), (5, .inl (1)), (4, .inl (x1)), (3, .inl (px_wr (x3 + 1))), (7, .inl (q3)), (0, .inr (.inr 120)), (1, .inl (x1)), (2, .inl (x2))]) (st1 := []) (h1 := (px_G1, s)) rfl ?_
          refine px_D_ls [(0, .inr (.inr 120)), (1, .inl (x1)), (2, .inl (x2)), (3, .inl (px_wr (x3 + 1))), (4, .inl (x1)), (5, .inl (1)), (6, .inl (px_wr (x6 + 1)))] rfl rfl (List.forall_mem_cons.mpr ⟨rfl, List.forall_mem_cons.mpr ⟨rfl, List.forall_mem_cons.mpr ⟨rfl, List.forall_mem_cons.mpr ⟨rfl, List.forall_mem_cons.mpr ⟨rfl, List.forall_mem_cons.mpr ⟨rfl, List.forall_mem_cons.mpr ⟨rfl, fun _ h => absurd h List.not_mem_nil⟩⟩⟩⟩⟩⟩⟩) ?_
          exact ih _ _ _ _ _ _ _ h
        · have hc5 : ¬ ((x5) = (0)) := of_decide_eq_false hc
          rw [if_neg hc5] at h
          refine px_D_st 2 (ip1 := 39) (ls1 := [(7, .inl (q3)), (0, .inr (.inr 120)), (1, .inl (x1)), (2, .inl (x2)), (3, .inl (x3)), (4, .inl (x4)), (5, .inl (x5)), (6, .inl (x6))]) (st1 := [.inl (x2), .inl (x4)]) (h1 := (px_G1, s)) rfl ?_
          refine px_D_icmp rfl (fun hc => ?_) (fun hc => ?_)
          · have hc6 : ¬ ((x4) = (x2)) := of_decide_eq_true hc
            rw [if_neg hc6] at h
            refine px_D_st 7 (ip1 := 8) (ls1 := [(6, .inl (px_wr (x6 + 1))), (5, .inl (1)), (4, .inl (x1)), (3, .inl (px_wr (x3 + 1))), (7, .inl (q3)), (0, .inr (.inr 120)), (1, .inl (x1)), (2, .inl (x2))]) (st1 := []) (h1 := (px_G1, s)) rfl ?_
            refine px_D_ls [(0, .inr (.inr 120)), (1, .inl (x1)), (2, .inl (x2)), (3, .inl (px_wr (x3 + 1))), (4, .inl (x1)), (5, .inl (1)), (6, .inl (px_wr (x6 + 1)))] rfl rfl (List.forall_mem_cons.mpr ⟨rfl, List.forall_mem_cons.mpr ⟨rfl, List.forall_mem_cons.mpr ⟨rfl, List.forall_mem_cons.mpr ⟨rfl, List.forall_mem_cons.mpr ⟨rfl, List.forall_mem_cons.mpr ⟨rfl, List.forall_mem_cons.mpr ⟨rfl, fun _ h => absurd h List.not_mem_nil⟩⟩⟩⟩⟩⟩⟩) ?_
            exact ih _ _ _ _ _ _ _ h
          · have hc6 : (x4) = (x2) := Decidable.of_not_not (of_decide_eq_false hc)
            rw [if_pos hc6] at h
            refine px_D_ls [(3, .inl (x3))] rfl rfl (List.forall_mem_cons.mpr ⟨rfl, fun _ h => absurd h List.not_mem_nil⟩) ?_
            exact hk40 _ _ h
      · have hc4 : ¬ ((q3) = (32)) := of_decide_eq_false hc
        rw [if_neg hc4] at h
        refine px_D_st 1 (ip1 := 20) (ls1 := [(7, .inl (q3)), (0, .inr (.inr 120)), (1, .inl (x1)), (2, .inl (x2)), (3, .inl (x3)), (4, .inl (x4)), (5, .inl (x5)), (6, .inl (x6))]) (st1 := [.inl (x5)]) (h1 := (px_G1, s)) rfl ?_
        refine px_D_ifc rfl (fun hc => ?_) (fun hc => ?_)
        · have hc7 : (x5) = (0) := of_decide_eq_true hc
          rw [if_pos hc7] at h
          refine px_D_st 6 (ip1 := 8) (ls1 := [(6, .inl (px_wr (x6 + 1))), (4, .inl (px_wr (x4 + 1))), (5, .inl (0)), (7, .inl (q3)), (0, .inr (.inr 120)), (1, .inl (x1)), (2, .inl (x2)), (3, .inl (x3))]) (st1 := []) (h1 := (px_G1, s)) rfl ?_
          refine px_D_ls [(0, .inr (.inr 120)), (1, .inl (x1)), (2, .inl (x2)), (3, .inl (x3)), (4, .inl (px_wr (x4 + 1))), (5, .inl (0)), (6, .inl (px_wr (x6 + 1)))] rfl rfl (List.forall_mem_cons.mpr ⟨rfl, List.forall_mem_cons.mpr ⟨rfl, List.forall_mem_cons.mpr ⟨rfl, List.forall_mem_cons.mpr ⟨rfl, List.forall_mem_cons.mpr ⟨rfl, List.forall_mem_cons.mpr ⟨rfl, List.forall_mem_cons.mpr ⟨rfl, fun _ h => absurd h List.not_mem_nil⟩⟩⟩⟩⟩⟩⟩) ?_
          exact ih _ _ _ _ _ _ _ h
        · have hc7 : ¬ ((x5) = (0)) := of_decide_eq_false hc
          rw [if_neg hc7] at h
          refine px_D_st 2 (ip1 := 23) (ls1 := [(7, .inl (q3)), (0, .inr (.inr 120)), (1, .inl (x1)), (2, .inl (x2)), (3, .inl (x3)), (4, .inl (x4)), (5, .inl (x5)), (6, .inl (x6))]) (st1 := [.inl (x2), .inl (x4)]) (h1 := (px_G1, s)) rfl ?_
          refine px_D_icmp rfl (fun hc => ?_) (fun hc => ?_)
          · have hc8 : (x2) ≤ (x4) := of_decide_eq_true hc
            rw [if_pos hc8] at h
            refine px_D_st 6 (ip1 := 8) (ls1 := [(6, .inl (px_wr (x6 + 1))), (4, .inl (px_wr (x4 + 1))), (5, .inl (0)), (7, .inl (q3)), (0, .inr (.inr 120)), (1, .inl (x1)), (2, .inl (x2)), (3, .inl (x3))]) (st1 := []) (h1 := (px_G1, s)) rfl ?_
            refine px_D_ls [(0, .inr (.inr 120)), (1, .inl (x1)), (2, .inl (x2)), (3, .inl (x3)), (4, .inl (px_wr (x4 + 1))), (5, .inl (0)), (6, .inl (px_wr (x6 + 1)))] rfl rfl (List.forall_mem_cons.mpr ⟨rfl, List.forall_mem_cons.mpr ⟨rfl, List.forall_mem_cons.mpr ⟨rfl, List.forall_mem_cons.mpr ⟨rfl, List.forall_mem_cons.mpr ⟨rfl, List.forall_mem_cons.mpr ⟨rfl, List.forall_mem_cons.mpr ⟨rfl, fun _ h => absurd h List.not_mem_nil⟩⟩⟩⟩⟩⟩⟩) ?_
            exact ih _ _ _ _ _ _ _ h
          · have hc8 : ¬ ((x2) ≤ (x4)) := of_decide_eq_false hc
            rw [if_neg hc8] at h
            refine px_D_st 2 (ip1 := 26) (ls1 := [(7, .inl (q3)), (0, .inr (.inr 120)), (1, .inl (x1)), (2, .inl (x2)), (3, .inl (x3)), (4, .inl (x4)), (5, .inl (x5)), (6, .inl (x6))]) (st1 := [.inl (x4), .inr (.inr 120)]) (h1 := (px_G1, s)) rfl ?_
            by_cases hc9 : 0 ≤ (x4) ∧ (x4) < 400
            case neg => rw [if_neg hc9] at h; cases h
            rw [if_pos hc9] at h
            refine px_D_iald (k := 115) (n := 400) rfl rfl hc9 ?_
            refine px_D_st 1 (ip1 := 28) (ls1 := [(7, .inl (q3)), (0, .inr (.inr 120)), (1, .inl (x1)), (2, .inl (x2)), (3, .inl (x3)), (4, .inl (x4)), (5, .inl (x5)), (6, .inl (x6))]) (st1 := [.inl (q3), .inl (s 120 x4.toNat)]) (h1 := (px_G1, s)) rfl ?_
            refine px_D_icmp rfl (fun hc => ?_) (fun hc => ?_)
            · have hc10 : ¬ ((s 120 x4.toNat) = (q3)) := of_decide_eq_true hc
              rw [if_neg hc10] at h
              refine px_D_st 6 (ip1 := 8) (ls1 := [(6, .inl (px_wr (x6 + 1))), (4, .inl (px_wr (x4 + 1))), (5, .inl (0)), (7, .inl (q3)), (0, .inr (.inr 120)), (1, .inl (x1)), (2, .inl (x2)), (3, .inl (x3))]) (st1 := []) (h1 := (px_G1, s)) rfl ?_
              refine px_D_ls [(0, .inr (.inr 120)), (1, .inl (x1)), (2, .inl (x2)), (3, .inl (x3)), (4, .inl (px_wr (x4 + 1))), (5, .inl (0)), (6, .inl (px_wr (x6 + 1)))] rfl rfl (List.forall_mem_cons.mpr ⟨rfl, List.forall_mem_cons.mpr ⟨rfl, List.forall_mem_cons.mpr ⟨rfl, List.forall_mem_cons.mpr ⟨rfl, List.forall_mem_cons.mpr ⟨rfl, List.forall_mem_cons.mpr ⟨rfl, List.forall_mem_cons.mpr ⟨rfl, fun _ h => absurd h List.not_mem_nil⟩⟩⟩⟩⟩⟩⟩) ?_
              exact ih _ _ _ _ _ _ _ h
            · have hc10 : (s 120 x4.toNat) = (q3) := Decidable.of_not_not (of_decide_eq_false hc)
              rw [if_pos hc10] at h
              refine px_D_st 7 (ip1 := 8) (ls1 := [(6, .inl (px_wr (x6 + 1))), (4, .inl (px_wr (x4 + 1))), (5, .inl (1)), (7, .inl (q3)), (0, .inr (.inr 120)), (1, .inl (x1)), (2, .inl (x2)), (3, .inl (x3))]) (st1 := []) (h1 := (px_G1, s)) rfl ?_
              refine px_D_ls [(0, .inr (.inr 120)), (1, .inl (x1)), (2, .inl (x2)), (3, .inl (x3)), (4, .inl (px_wr (x4 + 1))), (5, .inl (1)), (6, .inl (px_wr (x6 + 1)))] rfl rfl (List.forall_mem_cons.mpr ⟨rfl, List.forall_mem_cons.mpr ⟨rfl, List.forall_mem_cons.mpr ⟨rfl, List.forall_mem_cons.mpr ⟨rfl, List.forall_mem_cons.mpr ⟨rfl, List.forall_mem_cons.mpr ⟨rfl, List.forall_mem_cons.mpr ⟨rfl, fun _ h => absurd h List.not_mem_nil⟩⟩⟩⟩⟩⟩⟩) ?_
              exact ih _ _ _ _ _ _ _ h
def f_Reader_keyword (s : px_Z) (x1 : Int) (x2 : Int) : Option (Int) := l_Reader_keyword_8 s (fun x3 => some x3) (some 2) px_big x1 x2 256 x1 1 0
set_option maxHeartbeats 4000000 in
set_option maxRecDepth 100000 in
theorem c_Reader_keyword {sc : List Int} {d : Nat} {s : px_Z} {x1 : Int} {x2 : Int} {out : Int} (h : f_Reader_keyword s x1 x2 = some out) : px_D sc (d + 0) 43 0 [(0, .inr (.inr 120)), (1, .inl (x1)), (2, .inl (x2))] [] (px_G1, s) (px_Qp s out) := by
  unfold f_Reader_keyword at h
  refine px_D_st 8 (ip1 := 8) (ls1 := [(6, .inl (0)), (5, .inl (1)), (4, .inl (x1)), (3, .inl (256)), (0, .inr (.inr 120)), (1, .inl (x1)), (2, .inl (x2))]) (st1 := []) (h1 := (px_G1, s)) rfl ?_
  refine px_D_ls [(0, .inr (.inr 120)), (1, .inl (x1)), (2, .inl (x2)), (3, .inl (256)), (4, .inl (x1)), (5, .inl (1)), (6, .inl (0))] rfl rfl (List.forall_mem_cons.mpr ⟨rfl, List.forall_mem_cons.mpr ⟨rfl, List.forall_mem_cons.mpr ⟨rfl, List.forall_mem_cons.mpr ⟨rfl, List.forall_mem_cons.mpr ⟨rfl, List.forall_mem_cons.mpr ⟨rfl, List.forall_mem_cons.mpr ⟨rfl, fun _ h => absurd h List.not_mem_nil⟩⟩⟩⟩⟩⟩⟩) ?_
  refine cl_Reader_keyword_8 ?_ ?_ px_big _ _ _ _ _ _ _ h
  · intro x3 out h
    refine px_D_st 1 (ip1 := 41) (ls1 := [(3, .inl (x3))]) (st1 := [.inl (x3)]) (h1 := (px_G1, s)) rfl ?_
    cases h
    exact px_D_iret rfl rfl ⟨rfl, rfl⟩
  · intro out h
    refine px_D_st 1 (ip1 := 50) (ls1 := []) (st1 := [.inl (2)]) (h1 := (px_G1, s)) rfl ?_
    cases h
    exact px_D_iret rfl rfl ⟨rfl, rfl⟩

def l_Reader_splitOne_16 (k26 : px_Z → Int → Int → Int → Int → Option (Int × px_Z)) : Nat → px_Z → Int → Int → Int → Int → Option (Int × px_Z)
  | 0, _, _, _, _, _ => none
  | n + 1, s, x2, x3, x4, x5 => if (x3) ≤ (x5) then k26 s x2 x3 x4 x5 else (if 0 ≤ (x5) ∧ (x5) < 400 then if (f_Reader_isLetter s (s 120 x5.toNat)) = (0) then k26 s x2 x3 x4 x5 else l_Reader_splitOne_16 k26 n s x2 x3 x4 (px_wr (x5 + 1)) else none)
set_option maxHeartbeats 4000000 in
set_option maxRecDepth 100000 in
theorem cl_Reader_splitOne_16 {sc : List Int} {d : Nat} {k26 : px_Z → Int → Int → Int → Int → Option (Int × px_Z)}  (hk26 : ∀ (s : px_Z) (y2 : Int) (y3 : Int) (y4 : Int) (y5 : Int) (out : Int × px_Z), k26 s y2 y3 y4 y5 = some out → px_D sc (d + 1) 41 26 [(0, .inr (.inr 121)), (1, .inr (.inr 120)), (2, .inl (y2)), (3, .inl (y3)), (4, .inl (y4)), (5, .inl (y5))] [] (px_G1, s) (px_Qi out)) : ∀ (n : Nat) (s : px_Z) (x2 : Int) (x3 : Int) (x4 : Int) (x5 : Int) (out : Int × px_Z), l_Reader_splitOne_16 k26 n s x2 x3 x4 x5 = some out → px_D sc (d + 1) 41 16 [(0, .inr (.inr 121)), (1, .inr (.inr 120)), (2, .inl (x2)), (3, .inl (x3)), (4, .inl (x4)), (5, .inl (x5))] [] (px_G1, s) (px_Qi out) := by
  intro n
  induction n with
  | zero => intro s x2 x3 x4 x5 out h; cases h
  | succ n ih =>
    intro s x2 x3 x4 x5 out h
    rw [l_Reader_splitOne_16] at h
    refine px_D_st 2 (ip1 := 18) (ls1 := [(0, .inr (.inr 121)), (1, .inr (.inr 120)), (2, .inl (x2)), (3, .inl (x3)), (4, .inl (x4)), (5, .inl (x5))]) (st1 := [.inl (x3), .inl (x5)]) (h1 := (px_G1, s)) rfl ?_
    refine px_D_icmp rfl (fun hc => ?_) (fun hc => ?_)
    · have hc4 : (x3) ≤ (x5) := of_decide_eq_true hc
      rw [if_pos hc4] at h
      refine px_D_ls [(0, .inr (.inr 121)), (1, .inr (.inr 120)), (2, .inl (x2)), (3, .inl (x3)), (4, .inl (x4)), (5, .inl (x5))] rfl rfl (List.forall_mem_cons.mpr ⟨rfl, List.forall_mem_cons.mpr ⟨rfl, List.forall_mem_cons.mpr ⟨rfl, List.forall_mem_cons.mpr ⟨rfl, List.forall_mem_cons.mpr ⟨rfl, List.forall_mem_cons.mpr ⟨rfl, fun _ h => absurd h List.not_mem_nil⟩⟩⟩⟩⟩⟩) ?_
      exact hk26 _ _ _ _ _ _ h
    · have hc4 : ¬ ((x3) ≤ (x5)) := of_decide_eq_false hc
      rw [if_neg hc4] at h
      refine px_D_st 2 (ip1 := 21) (ls1 := [(0, .inr (.inr 121)), (1, .inr (.inr 120)), (2, .inl (x2)), (3, .inl (x3)), (4, .inl (x4)), (5, .inl (x5))]) (st1 := [.inl (x5), .inr (.inr 120)]) (h1 := (px_G1, s)) rfl ?_
      by_cases hc5 : 0 ≤ (x5) ∧ (x5) < 400
      case neg => rw [if_neg hc5] at h; cases h
      rw [if_pos hc5] at h
      refine px_D_iald (k := 115) (n := 400) rfl rfl hc5 ?_
      refine px_D_call (as := [.inl (s 120 x5.toNat)]) (rest := []) rfl rfl rfl rfl ?_
      refine px_D_mono (c_Reader_isLetter (d := d + 0) rfl) ?_
      rintro _ _ ⟨rfl, rfl⟩
      show px_D sc (d + 1) 41 23 [(0, .inr (.inr 121)), (1, .inr (.inr 120)), (2, .inl (x2)), (3, .inl (x3)), (4, .inl (x4)), (5, .inl (x5))] [.inl (f_Reader_isLetter s (s 120 x5.toNat))] (px_G1, s) _
      refine px_D_ifc rfl (fun hc => ?_) (fun hc => ?_)
      · have hc6 : (f_Reader_isLetter s (s 120 x5.toNat)) = (0) := of_decide_eq_true hc
        rw [if_pos hc6] at h
        refine px_D_ls [(0, .inr (.inr 121)), (1, .inr (.inr 120)), (2, .inl (x2)), (3, .inl (x3)), (4, .inl (x4)), (5, .inl (x5))] rfl rfl (List.forall_mem_cons.mpr ⟨rfl, List.forall_mem_cons.mpr ⟨rfl, List.forall_mem_cons.mpr ⟨rfl, List.forall_mem_cons.mpr ⟨rfl, List.forall_mem_cons.mpr ⟨rfl, List.forall_mem_cons.mpr ⟨rfl, fun _ h => absurd h List.not_mem_nil⟩⟩⟩⟩⟩⟩) ?_
        exact hk26 _ _ _ _ _ _ h
      · have hc6 : ¬ ((f_Reader_isLetter s (s 120 x5.toNat)) = (0)) := of_decide_eq_false hc
        rw [if_neg hc6] at h
        refine px_D_st 2 (ip1 := 16) (ls1 := [(5, .inl (px_wr (x5 + 1))), (0, .inr (.inr 121)), (1, .inr (.inr 120)), (2, .inl (x2)), (3, .inl (x3)), (4, .inl (x4))]) (st1 := []) (h1 := (px_G1, s)) rfl ?_
        refine px_D_ls [(0, .inr (.inr 121)), (1, .inr (.inr 120)), (2, .inl (x2)), (3, .inl (x3)), (4, .inl (x4)), (5, .inl (px_wr (x5 + 1)))] rfl rfl (List.forall_mem_cons.mpr ⟨rfl, List.forall_mem_cons.mpr ⟨rfl, List.forall_mem_cons.mpr ⟨rfl, List.forall_mem_cons.mpr ⟨rfl, List.forall_mem_cons.mpr ⟨rfl, List.forall_mem_cons.mpr ⟨rfl, fun _ h => absurd h List.not_mem_nil⟩⟩⟩⟩⟩⟩) ?_
        exact ih _ _ _ _ _ _ h
def l_Reader_splitOne_41 (k66 : px_Z → Int → Int → Int → Int → Option (Int × px_Z)) : Nat → px_Z → Int → Int → Int → Int → Int → Option (Int × px_Z)
  | 0, _, _, _, _, _, _ => none
  | n + 1, s, x2, x3, x4, x5, x6 => if (x3) ≤ (x5) then k66 s x2 x4 x5 x6 else (if 0 ≤ (x5) ∧ (x5) < 400 then if (s 120 x5.toNat) < (48) then k66 s x2 x4 x5 x6 else (if 0 ≤ (x5) ∧ (x5) < 400 then if (57) < (s 120 x5.toNat) then k66 s x2 x4 x5 x6 else (if 0 ≤ (x5) ∧ (x5) < 400 then l_Reader_splitOne_41 k66 n s x2 x3 x4 (px_wr (x5 + 1)) (px_wr ((px_wr ((px_wr (x6 * 10)) + (s 120 x5.toNat))) - 48)) else none) else none) else none)
set_option maxHeartbeats 4000000 in
set_option maxRecDepth 100000 in
theorem cl_Reader_splitOne_41 {sc : List Int} {d : Nat} {k66 : px_Z → Int → Int → Int → Int → Option (Int × px_Z)}  (hk66 : ∀ (s : px_Z) (y2 : Int) (y4 : Int) (y5 : Int) (y6 : Int) (out : Int × px_Z), k66 s y2 y4 y5 y6 = some out → px_D sc (d + 1) 41 66 [(0, .inr (.inr 121)), (2, .inl (y2)), (4, .inl (y4)), (5, .inl (y5)), (6, .inl (y6))] [] (px_G1, s) (px_Qi out)) : ∀ (n : Nat) (s : px_Z) (x2 : Int) (x3 : Int) (x4 : Int) (x5 : Int) (x6 : Int) (out : Int × px_Z), l_Reader_splitOne_41 k66 n s x2 x3 x4 x5 x6 = some out → px_D sc (d + 1) 41 41 [(0, .inr (.inr 121)), (1, .inr (.inr 120)), (2, .inl (x2)), (3, .inl (x3)), (4, .inl (x4)), (5, .inl (x5)), (6, .inl (x6))] [] (px_G1, s) (px_Qi out) := by
  intro n
  induction n with
  | zero => intro s x2 x3 x4 x5 x6 out h; cases h
  | succ n ih =>
    intro s x2 x3 x4 x5 x6 out h
    rw [l_Reader_splitOne_41] at h
    refine px_D_st 2 (ip1 := 43) (ls1 := [(0, .inr (.inr 121)), (1, .inr (.inr 120)), (2, .inl (x2)), (3, .inl (x3)), (4, .inl (x4)), (5, .inl (x5)), (6, .inl (x6))]) (st1 := [.inl (x3), .inl (x5)]) (h1 := (px_G1, s)) rfl ?_
    refine px_D_icmp rfl (fun hc => ?_) (fun hc => ?_)
    · have hc8 : (x3) ≤ (x5) := of_decide_eq_true hc
      rw [if_pos hc8] at h
      refine px_D_ls [(0, .inr (.inr 121)), (2, .inl (x2)), (4, .inl (x4)), (5, .inl (x5)), (6, .inl (x6))] rfl rfl (List.forall_mem_cons.mpr ⟨rfl, List.forall_mem_cons.mpr ⟨rfl, List.forall_mem_cons.mpr ⟨rfl, List.forall_mem_cons.mpr ⟨rfl, List.forall_mem_cons.mpr ⟨rfl, fun _ h => absurd h List.not_mem_nil⟩⟩⟩⟩⟩) ?_
      exact hk66 _ _ _ _ _ _ h
    · have hc8 : ¬ ((x3) ≤ (x5)) := of_decide_eq_false hc
      rw [if_neg hc8] at h
      refine px_D_st 2 (ip1 := 46) (ls1 := [(0, .inr (.inr 121)), (1, .inr (.inr 120)), (2, .inl (x2)), (3, .inl (x3)), (4, .inl (x4)), (5, .inl (x5)), (6, .inl (x6))]) (st1 := [.inl (x5), .inr (.inr 120)]) (h1 := (px_G1, s)) rfl ?_
      by_cases hc9 : 0 ≤ (x5) ∧ (x5) < 400
      case neg => rw [if_neg hc9] at h; cases h
      rw [if_pos hc9] at h
      refine px_D_iald (k := 115) (n := 400) rfl rfl hc9 ?_
      refine px_D_st 1 (ip1 := 48) (ls1 := [(0, .inr (.inr 121)), (1, .inr (.inr 120)), (2, .inl (x2)), (3, .inl (x3)), (4, .inl (x4)), (5, .inl (x5)), (6, .inl (x6))]) (st1 := [.inl (48), .inl (s 120 x5.toNat)]) (h1 := (px_G1, s)) rfl ?_
      refine px_D_icmp rfl (fun hc => ?_) (fun hc => ?_)
      · have hc10 : (s 120 x5.toNat) < (48) := of_decide_eq_true hc
        rw [if_pos hc10] at h
        refine px_D_ls [(0, .inr (.inr 121)), (2, .inl (x2)), (4, .inl (x4)), (5, .inl (x5)), (6, .inl (x6))] rfl rfl (List.forall_mem_cons.mpr ⟨rfl, List.forall_mem_cons.mpr ⟨rfl, List.forall_mem_cons.mpr ⟨rfl, List.forall_mem_cons.mpr ⟨rfl, List.forall_mem_cons.mpr ⟨rfl, fun _ h => absurd h List.not_mem_nil⟩⟩⟩⟩⟩) ?_
        exact hk66 _ _ _ _ _ _ h
      · have hc10 : ¬ ((s 120 x5.toNat) < (48)) := of_decide_eq_false hc
        rw [if_neg hc10] at h
        refine px_D_st 2 (ip1 := 51) (ls1 := [(0, .inr (.inr 121)), (1, .inr (.inr 120)), (2, .inl (x2)), (3, .inl (x3)), (4, .inl (x4)), (5, .inl (x5)), (6, .inl (x6))]) (st1 := [.inl (x5), .inr (.inr 120)]) (h1 := (px_G1, s)) rfl ?_
        by_cases hc11 : 0 ≤ (x5) ∧ (x5) < 400
        case neg => rw [if_neg hc11] at h; cases h
        rw [if_pos hc11] at h
        refine px_D_iald (k := 115) (n := 400) rfl rfl hc11 ?_
        refine px_D_st 1 (ip1 := 53) (ls1 := [(0, .inr (.inr 121)), (1, .inr (.inr 120)), (2, .inl (x2)), (3, .inl (x3)), (4, .inl (x4)), (5, .inl (x5)), (6, .inl (x6))]) (st1 := [.inl (57), .inl (s 120 x5.toNat)]) (h1 := (px_G1, s)) rfl ?_
        refine px_D_icmp rfl (fun hc => ?_) (fun hc => ?_)
        · have hc12 : (57) < (s 120 x5.toNat) := of_decide_eq_true hc
          rw [if_pos hc12] at h
          refine px_D_ls [(0, .inr (.inr 121)), (2, .inl (x2)), (4, .inl (x4)), (5, .inl (x5)), (6, .inl (x6))] rfl rfl (List.forall_mem_cons.mpr ⟨rfl, List.forall_mem_cons.mpr ⟨rfl, List.forall_mem_cons.mpr ⟨rfl, List.forall_mem_cons.mpr ⟨rfl, List.forall_mem_cons.mpr ⟨rfl, fun _ h => absurd h List.not_mem_nil⟩⟩⟩⟩⟩) ?_
          exact hk66 _ _ _ _ _ _ h
        · have hc12 : ¬ ((57) < (s 120 x5.toNat)) := of_decide_eq_false hc
          rw [if_neg hc12] at h
          refine px_D_st 5 (ip1 := 59) (ls1 := [(0, .inr (.inr 121)), (1, .inr (.inr 120)), (2, .inl (x2)), (3, .inl (x3)), (4, .inl (x4)), (5, .inl (x5)), (6, .inl (x6))]) (st1 := [.inl (x5), .inr (.inr 120), .inl (px_wr (x6 * 10))]) (h1 := (px_G1, s)) rfl ?_
          by_cases hc13 : 0 ≤ (x5) ∧ (x5) < 400
          case neg => rw [if_neg hc13] at h; cases h
          rw [if_pos hc13] at h
          refine px_D_iald (k := 115) (n := 400) rfl rfl hc13 ?_
          refine px_D_st 6 (ip1 := 41) (ls1 := [(5, .inl (px_wr (x5 + 1))), (6, .inl (px_wr ((px_wr ((px_wr (x6 * 10)) + (s 120 x5.toNat))) - 48))), (0, .inr (.inr 121)), (1, .inr (.inr 120)), (2, .inl (x2)), (3, .inl (x3)), (4, .inl (x4))]) (st1 := []) (h1 := (px_G1, s)) rfl ?_
          refine px_D_ls [(0, .inr (.inr 121)), (1, .inr (.inr 120)), (2, .inl (x2)), (3, .inl (x3)), (4, .inl (x4)), (5, .inl (px_wr (x5 + 1))), (6, .inl (px_wr ((px_wr ((px_wr (x6 * 10)) + (s 120 x5.toNat))) - 48)))] rfl rfl (List.forall_mem_cons.mpr ⟨rfl, List.forall_mem_cons.mpr ⟨rfl, List.forall_mem_cons.mpr ⟨rfl, List.forall_mem_cons.mpr ⟨rfl, List.forall_mem_cons.mpr ⟨rfl, List.forall_mem_cons.mpr ⟨rfl, List.forall_mem_cons.mpr ⟨rfl, fun _ h => absurd h List.not_mem_nil⟩⟩⟩⟩⟩⟩⟩) ?_
          exact ih _ _ _ _ _ _ _ h
def j_Reader_splitOne_j66 (s : px_Z) (x2 : Int) (x4 : Int) (x5 : Int) (x6 : Int) : Option (Int × px_Z) := if (x5) ≤ (x2) then (if (px_io (px_i2c x4) (px_tx 1) 0) < (0) then (f_Reader_addToken s 2 0 x2).bind (fun q16 => some ((px_wr (x2 + 1), q16))) else (f_Reader_addToken s x4 0 x2).bind (fun q17 => some ((px_wr (x2 + 1), q17)))) else (if (4) < (px_wr (x5 - x2)) then (f_Reader_addToken s 2 x6 x2).bind (fun q19 => some (x5, q19)) else (f_Reader_addToken s 1 x6 x2).bind (fun q20 => some (x5, q20)))
set_option maxHeartbeats 4000000 in
set_option maxRecDepth 100000 in
theorem cj_Reader_splitOne_j66 {sc : List Int} {d : Nat} {s : px_Z} {x2 : Int} {x4 : Int} {x5 : Int} {x6 : Int} {out : Int × px_Z} (h : j_Reader_splitOne_j66 s x2 x4 x5 x6 = some out) : px_D sc (d + 1) 41 66 [(0, .inr (.inr 121)), (2, .inl (x2)), (4, .inl (x4)), (5, .inl (x5)), (6, .inl (x6))] [] (px_G1, s) (px_Qi out) := by
  unfold j_Reader_splitOne_j66 at h
  refine px_D_st 2 (ip1 := 68) (ls1 := [(0, .inr (.inr 121)), (2, .inl (x2)), (4, .inl (x4)), (5, .inl (x5)), (6, .inl (x6))]) (st1 := [.inl (x2), .inl (x5)]) (h1 := (px_G1, s)) rfl ?_
  refine px_D_icmp rfl (fun hc => ?_) (fun hc => ?_)
  · have hc14 : (x5) ≤ (x2) := of_decide_eq_true hc
    rw [if_pos hc14] at h
    refine px_D_st 2 (ip1 := 88) (ls1 := [(0, .inr (.inr 121)), (2, .inl (x2)), (4, .inl (x4)), (5, .inl (x5)), (6, .inl (x6))]) (st1 := [.inl (px_io (px_i2c x4) (px_tx 1) 0), .inr (.inr 121)]) (h1 := (px_G1, s)) rfl ?_
    refine px_D_ifc rfl (fun hc => ?_) (fun hc => ?_)
    · have hc15 : (px_io (px_i2c x4) (px_tx 1) 0) < (0) := of_decide_eq_true hc
      rw [if_pos hc15] at h
      refine px_D_st 3 (ip1 := 94) (ls1 := [(0, .inr (.inr 121)), (2, .inl (x2)), (4, .inl (x4)), (5, .inl (x5)), (6, .inl (x6))]) (st1 := [.inl (x2), .inl (0), .inl (2), .inr (.inr 121)]) (h1 := (px_G1, s)) rfl ?_
      refine px_D_call (as := [.inr (.inr 121), .inl (2), .inl (0), .inl (x2)]) (rest := []) rfl rfl rfl rfl ?_
      obtain ⟨q16, hq16, h⟩ := Option.bind_eq_some_iff.mp h
      refine px_D_mono (c_Reader_addToken (d := d + 0) hq16) ?_
      rintro _ _ ⟨rfl, rfl⟩
      show px_D sc (d + 1) 41 95 [(0, .inr (.inr 121)), (2, .inl (x2)), (4, .inl (x4)), (5, .inl (x5)), (6, .inl (x6))] [] (px_G1, q16) _
      refine px_D_st 3 (ip1 := 98) (ls1 := [(0, .inr (.inr 121)), (2, .inl (x2)), (4, .inl (x4)), (5, .inl (x5)), (6, .inl (x6))]) (st1 := [.inl (px_wr (x2 + 1))]) (h1 := (px_G1, q16)) rfl ?_
      cases h
      exact px_D_iret rfl rfl ⟨rfl, rfl⟩
    · have hc15 : ¬ ((px_io (px_i2c x4) (px_tx 1) 0) < (0)) := of_decide_eq_false hc
      rw [if_neg hc15] at h
      refine px_D_st 4 (ip1 := 94) (ls1 := [(0, .inr (.inr 121)), (2, .inl (x2)), (4, .inl (x4)), (5, .inl (x5)), (6, .inl (x6))]) (st1 := [.inl (x2), .inl (0), .inl (x4), .inr (.inr 121)]) (h1 := (px_G1, s)) rfl ?_
      refine px_D_call (as := [.inr (.inr 121), .inl (x4), .inl (0), .inl (x2)]) (rest := []) rfl rfl rfl rfl ?_
      obtain ⟨q17, hq17, h⟩ := Option.bind_eq_some_iff.mp h
      refine px_D_mono (c_Reader_addToken (d := d + 0) hq17) ?_
      rintro _ _ ⟨rfl, rfl⟩
      show px_D sc (d + 1) 41 95 [(0, .inr (.inr 121)), (2, .inl (x2)), (4, .inl (x4)), (5, .inl (x5)), (6, .inl (x6))] [] (px_G1, q17) _
      refine px_D_st 3 (ip1 := 98) (ls1 := [(0, .inr (.inr 121)), (2, .inl (x2)), (4, .inl (x4)), (5, .inl (x5)), (6, .inl (x6))]) (st1 := [.inl (px_wr (x2 + 1))]) (h1 := (px_G1, q17)) rfl ?_
      cases h
      exact px_D_iret rfl rfl ⟨rfl, rfl⟩
  · have hc14 : ¬ ((x5) ≤ (x2)) := of_decide_eq_false hc
    rw [if_neg hc14] at h
    refine px_D_st 5 (ip1 := 74) (ls1 := [(0, .inr (.inr 121)), (2, .inl (x2)), (4, .inl (x4)), (5, .inl (x5)), (6, .inl (x6))]) (st1 := [.inl (4), .inl (px_wr (x5 - x2)), .inr (.inr 121)]) (h1 := (px_G1, s)) rfl ?_
    refine px_D_icmp rfl (fun hc => ?_) (fun hc => ?_)
    · have hc18 : (4) < (px_wr (x5 - x2)) := of_decide_eq_true hc
      rw [if_pos hc18] at h
      refine px_D_st 3 (ip1 := 80) (ls1 := [(0, .inr (.inr 121)), (2, .inl (x2)), (4, .inl (x4)), (5, .inl (x5)), (6, .inl (x6))]) (st1 := [.inl (x2), .inl (x6), .inl (2), .inr (.inr 121)]) (h1 := (px_G1, s)) rfl ?_
      refine px_D_call (as := [.inr (.inr 121), .inl (2), .inl (x6), .inl (x2)]) (rest := []) rfl rfl rfl rfl ?_
      obtain ⟨q19, hq19, h⟩ := Option.bind_eq_some_iff.mp h
      refine px_D_mono (c_Reader_addToken (d := d + 0) hq19) ?_
      rintro _ _ ⟨rfl, rfl⟩
      show px_D sc (d + 1) 41 81 [(0, .inr (.inr 121)), (2, .inl (x2)), (4, .inl (x4)), (5, .inl (x5)), (6, .inl (x6))] [] (px_G1, q19) _
      refine px_D_st 1 (ip1 := 82) (ls1 := [(0, .inr (.inr 121)), (2, .inl (x2)), (4, .inl (x4)), (5, .inl (x5)), (6, .inl (x6))]) (st1 := [.inl (x5)]) (h1 := (px_G1, q19)) rfl ?_
      cases h
      exact px_D_iret rfl rfl ⟨rfl, rfl⟩
    · have hc18 : ¬ ((4) < (px_wr (x5 - x2))) := of_decide_eq_false hc
      rw [if_neg hc18] at h
      refine px_D_st 4 (ip1 := 80) (ls1 := [(0, .inr (.inr 121)), (2, .inl (x2)), (4, .inl (x4)), (5, .inl (x5)), (6, .inl (x6))]) (st1 := [.inl (x2), .inl (x6), .inl (1), .inr (.inr 121)]) (h1 := (px_G1, s)) rfl ?_
      refine px_D_call (as := [.inr (.inr 121), .inl (1), .inl (x6), .inl (x2)]) (rest := []) rfl rfl rfl rfl ?_
      obtain ⟨q20, hq20, h⟩ := Option.bind_eq_some_iff.mp h
      refine px_D_mono (c_Reader_addToken (d := d + 0) hq20) ?_
      rintro _ _ ⟨rfl, rfl⟩
      show px_D sc (d + 1) 41 81 [(0, .inr (.inr 121)), (2, .inl (x2)), (4, .inl (x4)), (5, .inl (x5)), (6, .inl (x6))] [] (px_G1, q20) _
      refine px_D_st 1 (ip1 := 82) (ls1 := [(0, .inr (.inr 121)), (2, .inl (x2)), (4, .inl (x4)), (5, .inl (x5)), (6, .inl (x6))]) (st1 := [.inl (x5)]) (h1 := (px_G1, q20)) rfl ?_
      cases h
      exact px_D_iret rfl rfl ⟨rfl, rfl⟩
def j_Reader_splitOne_j26 (s : px_Z) (x2 : Int) (x3 : Int) (x4 : Int) (x5 : Int) : Option (Int × px_Z) := if (x5) ≤ (x2) then l_Reader_splitOne_41 (fun s x2 x4 x5 x6 => j_Reader_splitOne_j66 s x2 x4 x5 x6) px_big s x2 x3 x4 x5 0 else (f_Reader_keyword s x2 x5).bind (fun q21 => (f_Reader_addToken s q21 0 x2).bind (fun q22 => some (x5, q22)))
set_option maxHeartbeats 4000000 in
set_option maxRecDepth 100000 in
theorem cj_Reader_splitOne_j26 {sc : List Int} {d : Nat} {s : px_Z} {x2 : Int} {x3 : Int} {x4 : Int} {x5 : Int} {out : Int × px_Z} (h : j_Reader_splitOne_j26 s x2 x3 x4 x5 = some out) : px_D sc (d + 1) 41 26 [(0, .inr (.inr 121)), (1, .inr (.inr 120)), (2, .inl (x2)), (3, .inl (x3)), (4, .inl (x4)), (5, .inl (x5))] [] (px_G1, s) (px_Qi out) := by
  unfold j_Reader_splitOne_j26 at h
  refine px_D_st 2 (ip1 := 28) (ls1 := [(0, .inr (.inr 121)), (1, .inr (.inr 120)), (2, .inl (x2)), (3, .inl (x3)), (4, .inl (x4)), (5, .inl (x5))]) (st1 := [.inl (x2), .inl (x5)]) (h1 := (px_G1, s)) rfl ?_
  refine px_D_icmp rfl (fun hc => ?_) (fun hc => ?_)
  · have hc7 : (x5) ≤ (x2) := of_decide_eq_true hc
    rw [if_pos hc7] at h
    refine px_D_st 2 (ip1 := 41) (ls1 := [(6, .inl (0)), (0, .inr (.inr 121)), (1, .inr (.inr 120)), (2, .inl (x2)), (3, .inl (x3)), (4, .inl (x4)), (5, .inl (x5))]) (st1 := []) (h1 := (px_G1, s)) rfl ?_
    refine px_D_ls [(0, .inr (.inr 121)), (1, .inr (.inr 120)), (2, .inl (x2)), (3, .inl (x3)), (4, .inl (x4)), (5, .inl (x5)), (6, .inl (0))] rfl rfl (List.forall_mem_cons.mpr ⟨rfl, List.forall_mem_cons.mpr ⟨rfl, List.forall_mem_cons.mpr ⟨rfl, List.forall_mem_cons.mpr ⟨rfl, List.forall_mem_cons.mpr ⟨rfl, List.forall_mem_cons.mpr ⟨rfl, List.forall_mem_cons.mpr ⟨rfl, fun _ h => absurd h List.not_mem_nil⟩⟩⟩⟩⟩⟩⟩) ?_
    refine cl_Reader_splitOne_41 ?_ px_big _ _ _ _ _ _ _ h
    · intro s x2 x4 x5 x6 out h
      refine px_D_ls [(0, .inr (.inr 121)), (2, .inl (x2)), (4, .inl (x4)), (5, .inl (x5)), (6, .inl (x6))] rfl rfl (List.forall_mem_cons.mpr ⟨rfl, List.forall_mem_cons.mpr ⟨rfl, List.forall_mem_cons.mpr ⟨rfl, List.forall_mem_cons.mpr ⟨rfl, List.forall_mem_cons.mpr ⟨rfl, fun _ h => absurd h List.not_mem_nil⟩⟩⟩⟩⟩) ?_
      exact cj_Reader_splitOne_j66 h
  · have hc7 : ¬ ((x5) ≤ (x2)) := of_decide_eq_false hc
    rw [if_neg hc7] at h
    refine px_D_st 4 (ip1 := 33) (ls1 := [(0, .inr (.inr 121)), (1, .inr (.inr 120)), (2, .inl (x2)), (3, .inl (x3)), (4, .inl (x4)), (5, .inl (x5))]) (st1 := [.inl (x5), .inl (x2), .inr (.inr 120), .inr (.inr 121)]) (h1 := (px_G1, s)) rfl ?_
    refine px_D_call (as := [.inr (.inr 120), .inl (x2), .inl (x5)]) (rest := [.inr (.inr 121)]) rfl rfl rfl rfl ?_
    obtain ⟨q21, hq21, h⟩ := Option.bind_eq_some_iff.mp h
    refine px_D_mono (c_Reader_keyword (d := d + 0) hq21) ?_
    rintro _ _ ⟨rfl, rfl⟩
    show px_D sc (d + 1) 41 34 [(0, .inr (.inr 121)), (1, .inr (.inr 120)), (2, .inl (x2)), (3, .inl (x3)), (4, .inl (x4)), (5, .inl (x5))] [.inl (q21), .inr (.inr 121)] (px_G1, s) _
    refine px_D_st 2 (ip1 := 36) (ls1 := [(0, .inr (.inr 121)), (1, .inr (.inr 120)), (2, .inl (x2)), (3, .inl (x3)), (4, .inl (x4)), (5, .inl (x5))]) (st1 := [.inl (x2), .inl (0), .inl (q21), .inr (.inr 121)]) (h1 := (px_G1, s)) rfl ?_
    refine px_D_call (as := [.inr (.inr 121), .inl (q21), .inl (0), .inl (x2)]) (rest := []) rfl rfl rfl rfl ?_
    obtain ⟨q22, hq22, h⟩ := Option.bind_eq_some_iff.mp h
    refine px_D_mono (c_Reader_addToken (d := d + 0) hq22) ?_
    rintro _ _ ⟨rfl, rfl⟩
    show px_D sc (d + 1) 41 37 [(0, .inr (.inr 121)), (1, .inr (.inr 120)), (2, .inl (x2)), (3, .inl (x3)), (4, .inl (x4)), (5, .inl (x5))] [] (px_G1, q22) _
    refine px_D_st 1 (ip1 := 38) (ls1 := [(0, .inr (.inr 121)), (1, .inr (.inr 120)), (2, .inl (x2)), (3, .inl (x3)), (4, .inl (x4)), (5, .inl (x5))]) (st1 := [.inl (x5)]) (h1 := (px_G1, q22)) rfl ?_
    cases h
    exact px_D_iret rfl rfl ⟨rfl, rfl⟩
def f_Reader_splitOne (s : px_Z) (x2 : Int) (x3 : Int) : Option (Int × px_Z) := if 0 ≤ (x2) ∧ (x2) < 400 then if (s 120 x2.toNat) = (32) then some ((px_wr (x2 + 1), s)) else (if (s 120 x2.toNat) = (10) then some ((px_wr (x2 + 1), s)) else l_Reader_splitOne_16 (fun s x2 x3 x4 x5 => j_Reader_splitOne_j26 s x2 x3 x4 x5) px_big s x2 x3 (s 120 x2.toNat) x2) else none
set_option maxHeartbeats 4000000 in
set_option maxRecDepth 100000 in
theorem c_Reader_splitOne {sc : List Int} {d : Nat} {s : px_Z} {x2 : Int} {x3 : Int} {out : Int × px_Z} (h : f_Reader_splitOne s x2 x3 = some out) : px_D sc (d + 1) 41 0 [(0, .inr (.inr 121)), (1, .inr (.inr 120)), (2, .inl (x2)), (3, .inl (x3))] [] (px_G1, s) (px_Qi out) := by
  unfold f_Reader_splitOne at h
  refine px_D_st 2 (ip1 := 2) (ls1 := [(0, .inr (.inr 121)), (1, .inr (.inr 120)), (2, .inl (x2)), (3, .inl (x3))]) (st1 := [.inl (x2), .inr (.inr 120)]) (h1 := (px_G1, s)) rfl ?_
  by_cases hc1 : 0 ≤ (x2) ∧ (x2) < 400
  case neg => rw [if_neg hc1] at h; cases h
  rw [if_pos hc1] at h
  refine px_D_iald (k := 115) (n := 400) rfl rfl hc1 ?_
  refine px_D_st 3 (ip1 := 6) (ls1 := [(4, .inl (s 120 x2.toNat)), (0, .inr (.inr 121)), (1, .inr (.inr 120)), (2, .inl (x2)), (3, .inl (x3))]) (st1 := [.inl (32), .inl (s 120 x2.toNat)]) (h1 := (px_G1, s)) rfl ?_
  refine px_D_icmp rfl (fun hc => ?_) (fun hc => ?_)
  · have hc2 : (s 120 x2.toNat) = (32) := of_decide_eq_true hc
    rw [if_pos hc2] at h
    refine px_D_st 3 (ip1 := 13) (ls1 := [(4, .inl (s 120 x2.toNat)), (0, .inr (.inr 121)), (1, .inr (.inr 120)), (2, .inl (x2)), (3, .inl (x3))]) (st1 := [.inl (px_wr (x2 + 1))]) (h1 := (px_G1, s)) rfl ?_
    cases h
    exact px_D_iret rfl rfl ⟨rfl, rfl⟩
  · have hc2 : ¬ ((s 120 x2.toNat) = (32)) := of_decide_eq_false hc
    rw [if_neg hc2] at h
    refine px_D_st 2 (ip1 := 9) (ls1 := [(4, .inl (s 120 x2.toNat)), (0, .inr (.inr 121)), (1, .inr (.inr 120)), (2, .inl (x2)), (3, .inl (x3))]) (st1 := [.inl (10), .inl (s 120 x2.toNat)]) (h1 := (px_G1, s)) rfl ?_
    refine px_D_icmp rfl (fun hc => ?_) (fun hc => ?_)
    · have hc3 : ¬ ((s 120 x2.toNat) = (10)) := of_decide_eq_true hc
      rw [if_neg hc3] at h
      refine px_D_st 2 (ip1 := 16) (ls1 := [(5, .inl (x2)), (4, .inl (s 120 x2.toNat)), (0, .inr (.inr 121)), (1, .inr (.inr 120)), (2, .inl (x2)), (3, .inl (x3))]) (st1 := []) (h1 := (px_G1, s)) rfl ?_
      refine px_D_ls [(0, .inr (.inr 121)), (1, .inr (.inr 120)), (2, .inl (x2)), (3, .inl (x3)), (4, .inl (s 120 x2.toNat)), (5, .inl (x2))] rfl rfl (List.forall_mem_cons.mpr ⟨rfl, List.forall_mem_cons.mpr ⟨rfl, List.forall_mem_cons.mpr ⟨rfl, List.forall_mem_cons.mpr ⟨rfl, List.forall_mem_cons.mpr ⟨rfl, List.forall_mem_cons.mpr ⟨rfl, fun _ h => absurd h List.not_mem_nil⟩⟩⟩⟩⟩⟩) ?_
      refine cl_Reader_splitOne_16 ?_ px_big _ _ _ _ _ _ h
      · intro s x2 x3 x4 x5 out h
        refine px_D_ls [(0, .inr (.inr 121)), (1, .inr (.inr 120)), (2, .inl (x2)), (3, .inl (x3)), (4, .inl (x4)), (5, .inl (x5))] rfl rfl (List.forall_mem_cons.mpr ⟨rfl, List.forall_mem_cons.mpr ⟨rfl, List.forall_mem_cons.mpr ⟨rfl, List.forall_mem_cons.mpr ⟨rfl, List.forall_mem_cons.mpr ⟨rfl, List.forall_mem_cons.mpr ⟨rfl, fun _ h => absurd h List.not_mem_nil⟩⟩⟩⟩⟩⟩) ?_
        exact cj_Reader_splitOne_j26 h
    · have hc3 : (s 120 x2.toNat) = (10) := Decidable.of_not_not (of_decide_eq_false hc)
      rw [if_pos hc3] at h
      refine px_D_st 3 (ip1 := 13) (ls1 := [(4, .inl (s 120 x2.toNat)), (0, .inr (.inr 121)), (1, .inr (.inr 120)), (2, .inl (x2)), (3, .inl (x3))]) (st1 := [.inl (px_wr (x2 + 1))]) (h1 := (px_G1, s)) rfl ?_
      cases h
      exact px_D_iret rfl rfl ⟨rfl, rfl⟩

def l_Reader_split_19 (k33 : px_Z → Int → Option (px_Z)) : Nat → px_Z → Int → Int → Int → Option (px_Z)
  | 0, _, _, _, _ => none
  | n + 1, s, x2, x4, x5 => if (x2) ≤ (x5) then k33 s x2 else (if (x2) ≤ (x4) then k33 s x2 else (f_Reader_splitOne s x4 x2).bind (fun q3 => l_Reader_split_19 k33 n q3.2 x2 q3.1 (px_wr (x5 + 1))))
set_option maxHeartbeats 4000000 in
set_option maxRecDepth 100000 in
theorem cl_Reader_split_19 {sc : List Int} {d : Nat} {k33 : px_Z → Int → Option (px_Z)}  (hk33 : ∀ (s : px_Z) (y2 : Int) (out : px_Z), k33 s y2 = some out → px_D sc (d + 2) 39 33 [(0, .inr (.inr 121)), (2, .inl (y2))] [] (px_G1, s) (px_Qv out)) : ∀ (n : Nat) (s : px_Z) (x2 : Int) (x4 : Int) (x5 : Int) (out : px_Z), l_Reader_split_19 k33 n s x2 x4 x5 = some out → px_D sc (d + 2) 39 19 [(0, .inr (.inr 121)), (1, .inr (.inr 120)), (2, .inl (x2)), (4, .inl (x4)), (5, .inl (x5))] [] (px_G1, s) (px_Qv out) := by
  intro n
  induction n with
  | zero => intro s x2 x4 x5 out h; cases h
  | succ n ih =>
    intro s x2 x4 x5 out h
    rw [l_Reader_split_19] at h
    refine px_D_st 2 (ip1 := 21) (ls1 := [(0, .inr (.inr 121)), (1, .inr (.inr 120)), (2, .inl (x2)), (4, .inl (x4)), (5, .inl (x5))]) (st1 := [.inl (x2), .inl (x5)]) (h1 := (px_G1, s)) rfl ?_
    refine px_D_icmp rfl (fun hc => ?_) (fun hc => ?_)
    · have hc1 : (x2) ≤ (x5) := of_decide_eq_true hc
      rw [if_pos hc1] at h
      refine px_D_ls [(0, .inr (.inr 121)), (2, .inl (x2))] rfl rfl (List.forall_mem_cons.mpr ⟨rfl, List.forall_mem_cons.mpr ⟨rfl, fun _ h => absurd h List.not_mem_nil⟩⟩) ?_
      exact hk33 _ _ _ h
    · have hc1 : ¬ ((x2) ≤ (x5)) := of_decide_eq_false hc
      rw [if_neg hc1] at h
      refine px_D_st 2 (ip1 := 24) (ls1 := [(0, .inr (.inr 121)), (1, .inr (.inr 120)), (2, .inl (x2)), (4, .inl (x4)), (5, .inl (x5))]) (st1 := [.inl (x2), .inl (x4)]) (h1 := (px_G1, s)) rfl ?_
      refine px_D_icmp rfl (fun hc => ?_) (fun hc => ?_)
      · have hc2 : (x2) ≤ (x4) := of_decide_eq_true hc
        rw [if_pos hc2] at h
        refine px_D_ls [(0, .inr (.inr 121)), (2, .inl (x2))] rfl rfl (List.forall_mem_cons.mpr ⟨rfl, List.forall_mem_cons.mpr ⟨rfl, fun _ h => absurd h List.not_mem_nil⟩⟩) ?_
        exact hk33 _ _ _ h
      · have hc2 : ¬ ((x2) ≤ (x4)) := of_decide_eq_false hc
        rw [if_neg hc2] at h
        refine px_D_st 4 (ip1 := 29) (ls1 := [(0, .inr (.inr 121)), (1, .inr (.inr 120)), (2, .inl (x2)), (4, .inl (x4)), (5, .inl (x5))]) (st1 := [.inl (x2), .inl (x4), .inr (.inr 120), .inr (.inr 121)]) (h1 := (px_G1, s)) rfl ?_
        refine px_D_call (as := [.inr (.inr 121), .inr (.inr 120), .inl (x4), .inl (x2)]) (rest := []) rfl rfl rfl rfl ?_
        obtain ⟨q3, hq3, h⟩ := Option.bind_eq_some_iff.mp h
        refine px_D_mono (c_Reader_splitOne (d := d + 0) hq3) ?_
        rintro _ _ ⟨rfl, rfl⟩
        show px_D sc (d + 2) 39 30 [(0, .inr (.inr 121)), (1, .inr (.inr 120)), (2, .inl (x2)), (4, .inl (x4)), (5, .inl (x5))] [.inl (q3.1)] (px_G1, q3.2) _
        refine px_D_st 3 (ip1 := 19) (ls1 := [(5, .inl (px_wr (x5 + 1))), (4, .inl (q3.1)), (0, .inr (.inr 121)), (1, .inr (.inr 120)), (2, .inl (x2))]) (st1 := []) (h1 := (px_G1, q3.2)) rfl ?_
        refine px_D_ls [(0, .inr (.inr 121)), (1, .inr (.inr 120)), (2, .inl (x2)), (4, .inl (q3.1)), (5, .inl (px_wr (x5 + 1)))] rfl rfl (List.forall_mem_cons.mpr ⟨rfl, List.forall_mem_cons.mpr ⟨rfl, List.forall_mem_cons.mpr ⟨rfl, List.forall_mem_cons.mpr ⟨rfl, List.forall_mem_cons.mpr ⟨rfl, fun _ h => absurd h List.not_mem_nil⟩⟩⟩⟩⟩) ?_
        exact ih _ _ _ _ _ h
def f_Reader_split (s : px_Z) (x2 : Int) (x3 : Int) : Option (px_Z) := l_Reader_split_19 (fun s x2 => (f_Reader_addToken s 0 0 x2).bind (fun q4 => some q4)) px_big (px_up (px_up (px_up (px_up (px_up s 121 5 x3) 121 7 0) 121 8 (-1)) 121 3 0) 121 4 0) x2 0 0
set_option maxHeartbeats 4000000 in
set_option maxRecDepth 100000 in
theorem c_Reader_split {sc : List Int} {d : Nat} {s : px_Z} {x2 : Int} {x3 : Int} {out : px_Z} (h : f_Reader_split s x2 x3 = some out) : px_D sc (d + 2) 39 0 [(0, .inr (.inr 121)), (1, .inr (.inr 120)), (2, .inl (x2)), (3, .inl (x3))] [] (px_G1, s) (px_Qv out) := by
  unfold f_Reader_split at h
  refine px_D_st 19 (ip1 := 19) (ls1 := [(5, .inl (0)), (4, .inl (0)), (0, .inr (.inr 121)), (1, .inr (.inr 120)), (2, .inl (x2)), (3, .inl (x3))]) (st1 := []) (h1 := (px_G1, px_up (px_up (px_up (px_up (px_up s 121 5 x3) 121 7 0) 121 8 (-1)) 121 3 0) 121 4 0)) rfl ?_
  refine px_D_ls [(0, .inr (.inr 121)), (1, .inr (.inr 120)), (2, .inl (x2)), (4, .inl (0)), (5, .inl (0))] rfl rfl (List.forall_mem_cons.mpr ⟨rfl, List.forall_mem_cons.mpr ⟨rfl, List.forall_mem_cons.mpr ⟨rfl, List.forall_mem_cons.mpr ⟨rfl, List.forall_mem_cons.mpr ⟨rfl, fun _ h => absurd h List.not_mem_nil⟩⟩⟩⟩⟩) ?_
  refine cl_Reader_split_19 ?_ px_big _ _ _ _ _ h
  · intro s x2 out h
    refine px_D_st 4 (ip1 := 37) (ls1 := [(0, .inr (.inr 121)), (2, .inl (x2))]) (st1 := [.inl (x2), .inl (0), .inl (0), .inr (.inr 121)]) (h1 := (px_G1, s)) rfl ?_
    refine px_D_call (as := [.inr (.inr 121), .inl (0), .inl (0), .inl (x2)]) (rest := []) rfl rfl rfl rfl ?_
    obtain ⟨q4, hq4, h⟩ := Option.bind_eq_some_iff.mp h
    refine px_D_mono (c_Reader_addToken (d := d + 1) hq4) ?_
    rintro _ _ ⟨rfl, rfl⟩
    show px_D sc (d + 2) 39 38 [(0, .inr (.inr 121)), (2, .inl (x2))] [] (px_G1, q4) _
    cases h
    exact px_D_vret rfl ⟨rfl, rfl⟩

def l_Plan_repeat_14 (k54 : px_Z → Int → Option (px_Z)) : Nat → px_Z → Int → Int → Int → Option (px_Z)
  | 0, _, _, _, _ => none
  | n + 1, s, x3, x4, x5 => if (x3) ≤ (0) then k54 s x4 else (if (x4) ≤ (x5) then k54 s x4 else (if (60) ≤ (x5) then k54 s x4 else (if 0 ≤ (px_wr (x5 - x3)) ∧ (px_wr (x5 - x3)) < 60 then if 0 ≤ (x5) ∧ (x5) < 60 then if 0 ≤ (px_wr (x5 - x3)) ∧ (px_wr (x5 - x3)) < 60 then if 0 ≤ (x5) ∧ (x5) < 60 then if 0 ≤ (px_wr (x5 - x3)) ∧ (px_wr (x5 - x3)) < 60 then if 0 ≤ (x5) ∧ (x5) < 60 then l_Plan_repeat_14 k54 n (px_up (px_up (px_up s 139 x5.toNat (s 139 (px_wr (x5 - x3)).toNat)) 140 x5.toNat ((px_up s 139 x5.toNat (s 139 (px_wr (x5 - x3)).toNat)) 140 (px_wr (x5 - x3)).toNat)) 141 x5.toNat ((px_up (px_up s 139 x5.toNat (s 139 (px_wr (x5 - x3)).toNat)) 140 x5.toNat ((px_up s 139 x5.toNat (s 139 (px_wr (x5 - x3)).toNat)) 140 (px_wr (x5 - x3)).toNat)) 141 (px_wr (x5 - x3)).toNat)) x3 x4 (px_wr (x5 + 1)) else none else none else none else none else none else none)))
set_option maxHeartbeats 4000000 in
set_option maxRecDepth 100000 in
theorem cl_Plan_repeat_14 {sc : List Int} {d : Nat} {k54 : px_Z → Int → Option (px_Z)}  (hk54 : ∀ (s : px_Z) (y4 : Int) (out : px_Z), k54 s y4 = some out → px_D sc (d + 0) 37 54 [(0, .inr (.inr 138)), (4, .inl (y4))] [] (px_G1, s) (px_Qv out)) : ∀ (n : Nat) (s : px_Z) (x3 : Int) (x4 : Int) (x5 : Int) (out : px_Z), l_Plan_repeat_14 k54 n s x3 x4 x5 = some out → px_D sc (d + 0) 37 14 [(0, .inr (.inr 138)), (3, .inl (x3)), (4, .inl (x4)), (5, .inl (x5))] [] (px_G1, s) (px_Qv out) := by
  intro n
  induction n with
  | zero => intro s x3 x4 x5 out h; cases h
  | succ n ih =>
    intro s x3 x4 x5 out h
    rw [l_Plan_repeat_14] at h
    refine px_D_st 1 (ip1 := 15) (ls1 := [(0, .inr (.inr 138)), (3, .inl (x3)), (4, .inl (x4)), (5, .inl (x5))]) (st1 := [.inl (x3)]) (h1 := (px_G1, s)) rfl ?_
    refine px_D_ifc rfl (fun hc => ?_) (fun hc => ?_)
    · have hc1 : (x3) ≤ (0) := of_decide_eq_true hc
      rw [if_pos hc1] at h
      refine px_D_ls [(0, .inr (.inr 138)), (4, .inl (x4))] rfl rfl (List.forall_mem_cons.mpr ⟨rfl, List.forall_mem_cons.mpr ⟨rfl, fun _ h => absurd h List.not_mem_nil⟩⟩) ?_
      exact hk54 _ _ _ h
    · have hc1 : ¬ ((x3) ≤ (0)) := of_decide_eq_false hc
      rw [if_neg hc1] at h
      refine px_D_st 2 (ip1 := 18) (ls1 := [(0, .inr (.inr 138)), (3, .inl (x3)), (4, .inl (x4)), (5, .inl (x5))]) (st1 := [.inl (x4), .inl (x5)]) (h1 := (px_G1, s)) rfl ?_
      refine px_D_icmp rfl (fun hc => ?_) (fun hc => ?_)
      · have hc2 : (x4) ≤ (x5) := of_decide_eq_true hc
        rw [if_pos hc2] at h
        refine px_D_ls [(0, .inr (.inr 138)), (4, .inl (x4))] rfl rfl (List.forall_mem_cons.mpr ⟨rfl, List.forall_mem_cons.mpr ⟨rfl, fun _ h => absurd h List.not_mem_nil⟩⟩) ?_
        exact hk54 _ _ _ h
      · have hc2 : ¬ ((x4) ≤ (x5)) := of_decide_eq_false hc
        rw [if_neg hc2] at h
        refine px_D_st 2 (ip1 := 21) (ls1 := [(0, .inr (.inr 138)), (3, .inl (x3)), (4, .inl (x4)), (5, .inl (x5))]) (st1 := [.inl (60), .inl (x5)]) (h1 := (px_G1, s)) rfl ?_
        refine px_D_icmp rfl (fun hc => ?_) (fun hc => ?_)
        · have hc3 : (60) ≤ (x5) := of_decide_eq_true hc
          rw [if_pos hc3] at h
          refine px_D_ls [(0, .inr (.inr 138)), (4, .inl (x4))] rfl rfl (List.forall_mem_cons.mpr ⟨rfl, List.forall_mem_cons.mpr ⟨rfl, fun _ h => absurd h List.not_mem_nil⟩⟩) ?_
          exact hk54 _ _ _ h
        · have hc3 : ¬ ((60) ≤ (x5)) := of_decide_eq_false hc
          rw [if_neg hc3] at h
          refine px_D_st 8 (ip1 := 30) (ls1 := [(0, .inr (.inr 138)), (3, .inl (x3)), (4, .inl (x4)), (5, .inl (x5))]) (st1 := [.inl (px_wr (x5 - x3)), .inr (.inr 139), .inl (x5), .inr (.inr 139)]) (h1 := (px_G1, s)) rfl ?_
          by_cases hc4 : 0 ≤ (px_wr (x5 - x3)) ∧ (px_wr (x5 - x3)) < 60
          case neg => rw [if_neg hc4] at h; cases h
          rw [if_pos hc4] at h
          refine px_D_iald (k := 134) (n := 60) rfl rfl hc4 ?_
          by_cases hc5 : 0 ≤ (x5) ∧ (x5) < 60
          case neg => rw [if_neg hc5] at h; cases h
          rw [if_pos hc5] at h
          refine px_D_iast (k := 134) (n := 60) rfl rfl hc5 ?_
          refine px_D_st 8 (ip1 := 40) (ls1 := [(0, .inr (.inr 138)), (3, .inl (x3)), (4, .inl (x4)), (5, .inl (x5))]) (st1 := [.inl (px_wr (x5 - x3)), .inr (.inr 140), .inl (x5), .inr (.inr 140)]) (h1 := (px_G1, px_up s 139 x5.toNat (s 139 (px_wr (x5 - x3)).toNat))) rfl ?_
          by_cases hc6 : 0 ≤ (px_wr (x5 - x3)) ∧ (px_wr (x5 - x3)) < 60
          case neg => rw [if_neg hc6] at h; cases h
          rw [if_pos hc6] at h
          refine px_D_iald (k := 135) (n := 60) rfl rfl hc6 ?_
          by_cases hc7 : 0 ≤ (x5) ∧ (x5) < 60
          case neg => rw [if_neg hc7] at h; cases h
          rw [if_pos hc7] at h
          refine px_D_iast (k := 135) (n := 60) rfl rfl hc7 ?_
          refine px_D_st 8 (ip1 := 50) (ls1 := [(0, .inr (.inr 138)), (3, .inl (x3)), (4, .inl (x4)), (5, .inl (x5))]) (st1 := [.inl (px_wr (x5 - x3)), .inr (.inr 141), .inl (x5), .inr (.inr 141)]) (h1 := (px_G1, px_up (px_up s 139 x5.toNat (s 139 (px_wr (x5 - x3)).toNat)) 140 x5.toNat ((px_up s 139 x5.toNat (s 139 (px_wr (x5 - x3)).toNat)) 140 (px_wr (x5 - x3)).toNat))) rfl ?_
          by_cases hc8 : 0 ≤ (px_wr (x5 - x3)) ∧ (px_wr (x5 - x3)) < 60
          case neg => rw [if_neg hc8] at h; cases h
          rw [if_pos hc8] at h
          refine px_D_iald (k := 136) (n := 60) rfl rfl hc8 ?_
          by_cases hc9 : 0 ≤ (x5) ∧ (x5) < 60
          case neg => rw [if_neg hc9] at h; cases h
          rw [if_pos hc9] at h
          refine px_D_iast (k := 136) (n := 60) rfl rfl hc9 ?_
          refine px_D_st 2 (ip1 := 14) (ls1 := [(5, .inl (px_wr (x5 + 1))), (0, .inr (.inr 138)), (3, .inl (x3)), (4, .inl (x4))]) (st1 := []) (h1 := (px_G1, px_up (px_up (px_up s 139 x5.toNat (s 139 (px_wr (x5 - x3)).toNat)) 140 x5.toNat ((px_up s 139 x5.toNat (s 139 (px_wr (x5 - x3)).toNat)) 140 (px_wr (x5 - x3)).toNat)) 141 x5.toNat ((px_up (px_up s 139 x5.toNat (s 139 (px_wr (x5 - x3)).toNat)) 140 x5.toNat ((px_up s 139 x5.toNat (s 139 (px_wr (x5 - x3)).toNat)) 140 (px_wr (x5 - x3)).toNat)) 141 (px_wr (x5 - x3)).toNat))) rfl ?_
          refine px_D_ls [(0, .inr (.inr 138)), (3, .inl (x3)), (4, .inl (x4)), (5, .inl (px_wr (x5 + 1)))] rfl rfl (List.forall_mem_cons.mpr ⟨rfl, List.forall_mem_cons.mpr ⟨rfl, List.forall_mem_cons.mpr ⟨rfl, List.forall_mem_cons.mpr ⟨rfl, fun _ h => absurd h List.not_mem_nil⟩⟩⟩⟩) ?_
          exact ih _ _ _ _ _ h
def f_Plan_repeat (s : px_Z) (x1 : Int) (x2 : Int) : Option (px_Z) := l_Plan_repeat_14 (fun s x4 => some (px_up s 138 0 x4)) px_big s (px_wr ((s 138 0) - x1)) (px_wr (x1 + (px_wr ((px_wr ((s 138 0) - x1)) * x2)))) (s 138 0)
set_option maxHeartbeats 4000000 in
set_option maxRecDepth 100000 in
theorem c_Plan_repeat {sc : List Int} {d : Nat} {s : px_Z} {x1 : Int} {x2 : Int} {out : px_Z} (h : f_Plan_repeat s x1 x2 = some out) : px_D sc (d + 0) 37 0 [(0, .inr (.inr 138)), (1, .inl (x1)), (2, .inl (x2))] [] (px_G1, s) (px_Qv out) := by
  unfold f_Plan_repeat at h
  refine px_D_st 14 (ip1 := 14) (ls1 := [(5, .inl (s 138 0)), (4, .inl (px_wr (x1 + (px_wr ((px_wr ((s 138 0) - x1)) * x2))))), (3, .inl (px_wr ((s 138 0) - x1))), (0, .inr (.inr 138)), (1, .inl (x1)), (2, .inl (x2))]) (st1 := []) (h1 := (px_G1, s)) rfl ?_
  refine px_D_ls [(0, .inr (.inr 138)), (3, .inl (px_wr ((s 138 0) - x1))), (4, .inl (px_wr (x1 + (px_wr ((px_wr ((s 138 0) - x1)) * x2))))), (5, .inl (s 138 0))] rfl rfl (List.forall_mem_cons.mpr ⟨rfl, List.forall_mem_cons.mpr ⟨rfl, List.forall_mem_cons.mpr ⟨rfl, List.forall_mem_cons.mpr ⟨rfl, fun _ h => absurd h List.not_mem_nil⟩⟩⟩⟩) ?_
  refine cl_Plan_repeat_14 ?_ px_big _ _ _ _ _ h
  · intro s x4 out h
    refine px_D_st 3 (ip1 := 57) (ls1 := [(0, .inr (.inr 138)), (4, .inl (x4))]) (st1 := []) (h1 := (px_G1, px_up s 138 0 x4)) rfl ?_
    cases h
    exact px_D_vret rfl ⟨rfl, rfl⟩

def f_R_fault (s : px_Z) (x1 : Int) : Int := if (x1) = (0) then s 121 7 else (if (x1) = (1) then s 121 8 else (-1))
set_option maxHeartbeats 4000000 in
set_option maxRecDepth 100000 in
theorem c_R_fault {sc : List Int} {d : Nat} {s : px_Z} {x1 : Int} {out : Int} (h : f_R_fault s x1 = out) : px_D sc (d + 0) 113 0 [(0, .inr (.inr 5)), (1, .inl (x1))] [] (px_G1, s) (px_Qp s out) := by
  unfold f_R_fault at h
  refine px_D_st 1 (ip1 := 1) (ls1 := [(0, .inr (.inr 5)), (1, .inl (x1))]) (st1 := [.inl (x1)]) (h1 := (px_G1, s)) rfl ?_
  refine px_D_ifc rfl (fun hc => ?_) (fun hc => ?_)
  · have hc1 : ¬ ((x1) = (0)) := of_decide_eq_true hc
    rw [if_neg hc1] at h
    refine px_D_st 2 (ip1 := 8) (ls1 := [(0, .inr (.inr 5)), (1, .inl (x1))]) (st1 := [.inl (1), .inl (x1)]) (h1 := (px_G1, s)) rfl ?_
    refine px_D_icmp rfl (fun hc => ?_) (fun hc => ?_)
    · have hc2 : ¬ ((x1) = (1)) := of_decide_eq_true hc
      rw [if_neg hc2] at h
      refine px_D_st 1 (ip1 := 14) (ls1 := [(0, .inr (.inr 5)), (1, .inl (x1))]) (st1 := [.inl ((-1))]) (h1 := (px_G1, s)) rfl ?_
      subst h
      exact px_D_iret rfl rfl ⟨rfl, rfl⟩
    · have hc2 : (x1) = (1) := Decidable.of_not_not (of_decide_eq_false hc)
      rw [if_pos hc2] at h
      refine px_D_st 4 (ip1 := 14) (ls1 := [(0, .inr (.inr 5)), (1, .inl (x1))]) (st1 := [.inl (s 121 8)]) (h1 := (px_G1, s)) rfl ?_
      subst h
      exact px_D_iret rfl rfl ⟨rfl, rfl⟩
  · have hc1 : (x1) = (0) := Decidable.of_not_not (of_decide_eq_false hc)
    rw [if_pos hc1] at h
    refine px_D_st 3 (ip1 := 5) (ls1 := [(0, .inr (.inr 5)), (1, .inl (x1))]) (st1 := [.inl (s 121 7)]) (h1 := (px_G1, s)) rfl ?_
    subst h
    exact px_D_iret rfl rfl ⟨rfl, rfl⟩

def f_Fate_become (s : px_Z) : Option (px_Z) := if ((px_up (px_up (px_up (px_up (px_up (px_up s 90 0 (s 7 0)) 90 1 ((px_up s 90 0 (s 7 0)) 7 1)) 90 2 ((px_up (px_up s 90 0 (s 7 0)) 90 1 ((px_up s 90 0 (s 7 0)) 7 1)) 7 2)) 90 3 ((px_up (px_up (px_up s 90 0 (s 7 0)) 90 1 ((px_up s 90 0 (s 7 0)) 7 1)) 90 2 ((px_up (px_up s 90 0 (s 7 0)) 90 1 ((px_up s 90 0 (s 7 0)) 7 1)) 7 2)) 7 3)) 90 4 ((px_up (px_up (px_up (px_up s 90 0 (s 7 0)) 90 1 ((px_up s 90 0 (s 7 0)) 7 1)) 90 2 ((px_up (px_up s 90 0 (s 7 0)) 90 1 ((px_up s 90 0 (s 7 0)) 7 1)) 7 2)) 90 3 ((px_up (px_up (px_up s 90 0 (s 7 0)) 90 1 ((px_up s 90 0 (s 7 0)) 7 1)) 90 2 ((px_up (px_up s 90 0 (s 7 0)) 90 1 ((px_up s 90 0 (s 7 0)) 7 1)) 7 2)) 7 3)) 7 4)) 90 5 ((px_up (px_up (px_up (px_up (px_up s 90 0 (s 7 0)) 90 1 ((px_up s 90 0 (s 7 0)) 7 1)) 90 2 ((px_up (px_up s 90 0 (s 7 0)) 90 1 ((px_up s 90 0 (s 7 0)) 7 1)) 7 2)) 90 3 ((px_up (px_up (px_up s 90 0 (s 7 0)) 90 1 ((px_up s 90 0 (s 7 0)) 7 1)) 90 2 ((px_up (px_up s 90 0 (s 7 0)) 90 1 ((px_up s 90 0 (s 7 0)) 7 1)) 7 2)) 7 3)) 90 4 ((px_up (px_up (px_up (px_up s 90 0 (s 7 0)) 90 1 ((px_up s 90 0 (s 7 0)) 7 1)) 90 2 ((px_up (px_up s 90 0 (s 7 0)) 90 1 ((px_up s 90 0 (s 7 0)) 7 1)) 7 2)) 90 3 ((px_up (px_up (px_up s 90 0 (s 7 0)) 90 1 ((px_up s 90 0 (s 7 0)) 7 1)) 90 2 ((px_up (px_up s 90 0 (s 7 0)) 90 1 ((px_up s 90 0 (s 7 0)) 7 1)) 7 2)) 7 3)) 7 4)) 7 5)) 7 6) = 0 ∨ ((px_up (px_up (px_up (px_up (px_up (px_up s 90 0 (s 7 0)) 90 1 ((px_up s 90 0 (s 7 0)) 7 1)) 90 2 ((px_up (px_up s 90 0 (s 7 0)) 90 1 ((px_up s 90 0 (s 7 0)) 7 1)) 7 2)) 90 3 ((px_up (px_up (px_up s 90 0 (s 7 0)) 90 1 ((px_up s 90 0 (s 7 0)) 7 1)) 90 2 ((px_up (px_up s 90 0 (s 7 0)) 90 1 ((px_up s 90 0 (s 7 0)) 7 1)) 7 2)) 7 3)) 90 4 ((px_up (px_up (px_up (px_up s 90 0 (s 7 0)) 90 1 ((px_up s 90 0 (s 7 0)) 7 1)) 90 2 ((px_up (px_up s 90 0 (s 7 0)) 90 1 ((px_up s 90 0 (s 7 0)) 7 1)) 7 2)) 90 3 ((px_up (px_up (px_up s 90 0 (s 7 0)) 90 1 ((px_up s 90 0 (s 7 0)) 7 1)) 90 2 ((px_up (px_up s 90 0 (s 7 0)) 90 1 ((px_up s 90 0 (s 7 0)) 7 1)) 7 2)) 7 3)) 7 4)) 90 5 ((px_up (px_up (px_up (px_up (px_up s 90 0 (s 7 0)) 90 1 ((px_up s 90 0 (s 7 0)) 7 1)) 90 2 ((px_up (px_up s 90 0 (s 7 0)) 90 1 ((px_up s 90 0 (s 7 0)) 7 1)) 7 2)) 90 3 ((px_up (px_up (px_up s 90 0 (s 7 0)) 90 1 ((px_up s 90 0 (s 7 0)) 7 1)) 90 2 ((px_up (px_up s 90 0 (s 7 0)) 90 1 ((px_up s 90 0 (s 7 0)) 7 1)) 7 2)) 7 3)) 90 4 ((px_up (px_up (px_up (px_up s 90 0 (s 7 0)) 90 1 ((px_up s 90 0 (s 7 0)) 7 1)) 90 2 ((px_up (px_up s 90 0 (s 7 0)) 90 1 ((px_up s 90 0 (s 7 0)) 7 1)) 7 2)) 90 3 ((px_up (px_up (px_up s 90 0 (s 7 0)) 90 1 ((px_up s 90 0 (s 7 0)) 7 1)) 90 2 ((px_up (px_up s 90 0 (s 7 0)) 90 1 ((px_up s 90 0 (s 7 0)) 7 1)) 7 2)) 7 3)) 7 4)) 7 5)) 7 6) = 1 then some (px_cp (px_cp (px_cp (px_cp (px_up (px_up (px_up (px_up (px_up (px_up (px_up (px_up s 90 0 (s 7 0)) 90 1 ((px_up s 90 0 (s 7 0)) 7 1)) 90 2 ((px_up (px_up s 90 0 (s 7 0)) 90 1 ((px_up s 90 0 (s 7 0)) 7 1)) 7 2)) 90 3 ((px_up (px_up (px_up s 90 0 (s 7 0)) 90 1 ((px_up s 90 0 (s 7 0)) 7 1)) 90 2 ((px_up (px_up s 90 0 (s 7 0)) 90 1 ((px_up s 90 0 (s 7 0)) 7 1)) 7 2)) 7 3)) 90 4 ((px_up (px_up (px_up (px_up s 90 0 (s 7 0)) 90 1 ((px_up s 90 0 (s 7 0)) 7 1)) 90 2 ((px_up (px_up s 90 0 (s 7 0)) 90 1 ((px_up s 90 0 (s 7 0)) 7 1)) 7 2)) 90 3 ((px_up (px_up (px_up s 90 0 (s 7 0)) 90 1 ((px_up s 90 0 (s 7 0)) 7 1)) 90 2 ((px_up (px_up s 90 0 (s 7 0)) 90 1 ((px_up s 90 0 (s 7 0)) 7 1)) 7 2)) 7 3)) 7 4)) 90 5 ((px_up (px_up (px_up (px_up (px_up s 90 0 (s 7 0)) 90 1 ((px_up s 90 0 (s 7 0)) 7 1)) 90 2 ((px_up (px_up s 90 0 (s 7 0)) 90 1 ((px_up s 90 0 (s 7 0)) 7 1)) 7 2)) 90 3 ((px_up (px_up (px_up s 90 0 (s 7 0)) 90 1 ((px_up s 90 0 (s 7 0)) 7 1)) 90 2 ((px_up (px_up s 90 0 (s 7 0)) 90 1 ((px_up s 90 0 (s 7 0)) 7 1)) 7 2)) 7 3)) 90 4 ((px_up (px_up (px_up (px_up s 90 0 (s 7 0)) 90 1 ((px_up s 90 0 (s 7 0)) 7 1)) 90 2 ((px_up (px_up s 90 0 (s 7 0)) 90 1 ((px_up s 90 0 (s 7 0)) 7 1)) 7 2)) 90 3 ((px_up (px_up (px_up s 90 0 (s 7 0)) 90 1 ((px_up s 90 0 (s 7 0)) 7 1)) 90 2 ((px_up (px_up s 90 0 (s 7 0)) 90 1 ((px_up s 90 0 (s 7 0)) 7 1)) 7 2)) 7 3)) 7 4)) 7 5)) 90 6 ((px_up (px_up (px_up (px_up (px_up (px_up s 90 0 (s 7 0)) 90 1 ((px_up s 90 0 (s 7 0)) 7 1)) 90 2 ((px_up (px_up s 90 0 (s 7 0)) 90 1 ((px_up s 90 0 (s 7 0)) 7 1)) 7 2)) 90 3 ((px_up (px_up (px_up s 90 0 (s 7 0)) 90 1 ((px_up s 90 0 (s 7 0)) 7 1)) 90 2 ((px_up (px_up s 90 0 (s 7 0)) 90 1 ((px_up s 90 0 (s 7 0)) 7 1)) 7 2)) 7 3)) 90 4 ((px_up (px_up (px_up (px_up s 90 0 (s 7 0)) 90 1 ((px_up s 90 0 (s 7 0)) 7 1)) 90 2 ((px_up (px_up s 90 0 (s 7 0)) 90 1 ((px_up s 90 0 (s 7 0)) 7 1)) 7 2)) 90 3 ((px_up (px_up (px_up s 90 0 (s 7 0)) 90 1 ((px_up s 90 0 (s 7 0)) 7 1)) 90 2 ((px_up (px_up s 90 0 (s 7 0)) 90 1 ((px_up s 90 0 (s 7 0)) 7 1)) 7 2)) 7 3)) 7 4)) 90 5 ((px_up (px_up (px_up (px_up (px_up s 90 0 (s 7 0)) 90 1 ((px_up s 90 0 (s 7 0)) 7 1)) 90 2 ((px_up (px_up s 90 0 (s 7 0)) 90 1 ((px_up s 90 0 (s 7 0)) 7 1)) 7 2)) 90 3 ((px_up (px_up (px_up s 90 0 (s 7 0)) 90 1 ((px_up s 90 0 (s 7 0)) 7 1)) 90 2 ((px_up (px_up s 90 0 (s 7 0)) 90 1 ((px_up s 90 0 (s 7 0)) 7 1)) 7 2)) 7 3)) 90 4 ((px_up (px_up (px_up (px_up s 90 0 (s 7 0)) 90 1 ((px_up s 90 0 (s 7 0)) 7 1)) 90 2 ((px_up (px_up s 90 0 (s 7 0)) 90 1 ((px_up s 90 0 (s 7 0)) 7 1)) 7 2)) 90 3 ((px_up (px_up (px_up s 90 0 (s 7 0)) 90 1 ((px_up s 90 0 (s 7 0)) 7 1)) 90 2 ((px_up (px_up s 90 0 (s 7 0)) 90 1 ((px_up s 90 0 (s 7 0)) 7 1)) 7 2)) 7 3)) 7 4)) 7 5)) 7 6)) 90 7 ((px_up (px_up (px_up (px_up (px_up (px_up (px_up s 90 0 (s 7 0)) 90 1 ((px_up s 90 0 (s 7 0)) 7 1)) 90 2 ((px_up (px_up s 90 0 (s 7 0)) 90 1 ((px_up s 90 0 (s 7 0)) 7 1)) 7 2)) 90 3 ((px_up (px_up (px_up s 90 0 (s 7 0)) 90 1 ((px_up s 90 0 (s 7 0)) 7 1)) 90 2 ((px_up (px_up s 90 0 (s 7 0)) 90 1 ((px_up s 90 0 (s 7 0)) 7 1)) 7 2)) 7 3)) 90 4 ((px_up (px_up (px_up (px_up s 90 0 (s 7 0)) 90 1 ((px_up s 90 0 (s 7 0)) 7 1)) 90 2 ((px_up (px_up s 90 0 (s 7 0)) 90 1 ((px_up s 90 0 (s 7 0)) 7 1)) 7 2)) 90 3 ((px_up (px_up (px_up s 90 0 (s 7 0)) 90 1 ((px_up s 90 0 (s 7 0)) 7 1)) 90 2 ((px_up (px_up s 90 0 (s 7 0)) 90 1 ((px_up s 90 0 (s 7 0)) 7 1)) 7 2)) 7 3)) 7 4)) 90 5 ((px_up (px_up (px_up (px_up (px_up s 90 0 (s 7 0)) 90 1 ((px_up s 90 0 (s 7 0)) 7 1)) 90 2 ((px_up (px_up s 90 0 (s 7 0)) 90 1 ((px_up s 90 0 (s 7 0)) 7 1)) 7 2)) 90 3 ((px_up (px_up (px_up s 90 0 (s 7 0)) 90 1 ((px_up s 90 0 (s 7 0)) 7 1)) 90 2 ((px_up (px_up s 90 0 (s 7 0)) 90 1 ((px_up s 90 0 (s 7 0)) 7 1)) 7 2)) 7 3)) 90 4 ((px_up (px_up (px_up (px_up s 90 0 (s 7 0)) 90 1 ((px_up s 90 0 (s 7 0)) 7 1)) 90 2 ((px_up (px_up s 90 0 (s 7 0)) 90 1 ((px_up s 90 0 (s 7 0)) 7 1)) 7 2)) 90 3 ((px_up (px_up (px_up s 90 0 (s 7 0)) 90 1 ((px_up s 90 0 (s 7 0)) 7 1)) 90 2 ((px_up (px_up s 90 0 (s 7 0)) 90 1 ((px_up s 90 0 (s 7 0)) 7 1)) 7 2)) 7 3)) 7 4)) 7 5)) 90 6 ((px_up (px_up (px_up (px_up (px_up (px_up s 90 0 (s 7 0)) 90 1 ((px_up s 90 0 (s 7 0)) 7 1)) 90 2 ((px_up (px_up s 90 0 (s 7 0)) 90 1 ((px_up s 90 0 (s 7 0)) 7 1)) 7 2)) 90 3 ((px_up (px_up (px_up s 90 0 (s 7 0)) 90 1 ((px_up s 90 0 (s 7 0)) 7 1)) 90 2 ((px_up (px_up s 90 0 (s 7 0)) 90 1 ((px_up s 90 0 (s 7 0)) 7 1)) 7 2)) 7 3)) 90 4 ((px_up (px_up (px_up (px_up s 90 0 (s 7 0)) 90 1 ((px_up s 90 0 (s 7 0)) 7 1)) 90 2 ((px_up (px_up s 90 0 (s 7 0)) 90 1 ((px_up s 90 0 (s 7 0)) 7 1)) 7 2)) 90 3 ((px_up (px_up (px_up s 90 0 (s 7 0)) 90 1 ((px_up s 90 0 (s 7 0)) 7 1)) 90 2 ((px_up (px_up s 90 0 (s 7 0)) 90 1 ((px_up s 90 0 (s 7 0)) 7 1)) 7 2)) 7 3)) 7 4)) 90 5 ((px_up (px_up (px_up (px_up (px_up s 90 0 (s 7 0)) 90 1 ((px_up s 90 0 (s 7 0)) 7 1)) 90 2 ((px_up (px_up s 90 0 (s 7 0)) 90 1 ((px_up s 90 0 (s 7 0)) 7 1)) 7 2)) 90 3 ((px_up (px_up (px_up s 90 0 (s 7 0)) 90 1 ((px_up s 90 0 (s 7 0)) 7 1)) 90 2 ((px_up (px_up s 90 0 (s 7 0)) 90 1 ((px_up s 90 0 (s 7 0)) 7 1)) 7 2)) 7 3)) 90 4 ((px_up (px_up (px_up (px_up s 90 0 (s 7 0)) 90 1 ((px_up s 90 0 (s 7 0)) 7 1)) 90 2 ((px_up (px_up s 90 0 (s 7 0)) 90 1 ((px_up s 90 0 (s 7 0)) 7 1)) 7 2)) 90 3 ((px_up (px_up (px_up s 90 0 (s 7 0)) 90 1 ((px_up s 90 0 (s 7 0)) 7 1)) 90 2 ((px_up (px_up s 90 0 (s 7 0)) 90 1 ((px_up s 90 0 (s 7 0)) 7 1)) 7 2)) 7 3)) 7 4)) 7 5)) 7 6)) 7 7)) 8 91 0 0 8) 9 92 0 0 8) 10 93 0 0 8) 11 94 0 0 8) else none
set_option maxHeartbeats 4000000 in
set_option maxRecDepth 100000 in
theorem c_Fate_become {sc : List Int} {d : Nat} {s : px_Z} {out : px_Z} (h : f_Fate_become s  = some out) : px_D sc (d + 0) 1 0 [(0, .inr (.inr 90)), (1, .inr (.inr 7))] [] (px_G1, s) (px_Qv out) := by
  unfold f_Fate_become at h
  refine px_D_st 27 (ip1 := 27) (ls1 := [(0, .inr (.inr 90)), (1, .inr (.inr 7))]) (st1 := [.inl ((px_up (px_up (px_up (px_up (px_up (px_up s 90 0 (s 7 0)) 90 1 ((px_up s 90 0 (s 7 0)) 7 1)) 90 2 ((px_up (px_up s 90 0 (s 7 0)) 90 1 ((px_up s 90 0 (s 7 0)) 7 1)) 7 2)) 90 3 ((px_up (px_up (px_up s 90 0 (s 7 0)) 90 1 ((px_up s 90 0 (s 7 0)) 7 1)) 90 2 ((px_up (px_up s 90 0 (s 7 0)) 90 1 ((px_up s 90 0 (s 7 0)) 7 1)) 7 2)) 7 3)) 90 4 ((px_up (px_up (px_up (px_up s 90 0 (s 7 0)) 90 1 ((px_up s 90 0 (s 7 0)) 7 1)) 90 2 ((px_up (px_up s 90 0 (s 7 0)) 90 1 ((px_up s 90 0 (s 7 0)) 7 1)) 7 2)) 90 3 ((px_up (px_up (px_up s 90 0 (s 7 0)) 90 1 ((px_up s 90 0 (s 7 0)) 7 1)) 90 2 ((px_up (px_up s 90 0 (s 7 0)) 90 1 ((px_up s 90 0 (s 7 0)) 7 1)) 7 2)) 7 3)) 7 4)) 90 5 ((px_up (px_up (px_up (px_up (px_up s 90 0 (s 7 0)) 90 1 ((px_up s 90 0 (s 7 0)) 7 1)) 90 2 ((px_up (px_up s 90 0 (s 7 0)) 90 1 ((px_up s 90 0 (s 7 0)) 7 1)) 7 2)) 90 3 ((px_up (px_up (px_up s 90 0 (s 7 0)) 90 1 ((px_up s 90 0 (s 7 0)) 7 1)) 90 2 ((px_up (px_up s 90 0 (s 7 0)) 90 1 ((px_up s 90 0 (s 7 0)) 7 1)) 7 2)) 7 3)) 90 4 ((px_up (px_up (px_up (px_up s 90 0 (s 7 0)) 90 1 ((px_up s 90 0 (s 7 0)) 7 1)) 90 2 ((px_up (px_up s 90 0 (s 7 0)) 90 1 ((px_up s 90 0 (s 7 0)) 7 1)) 7 2)) 90 3 ((px_up (px_up (px_up s 90 0 (s 7 0)) 90 1 ((px_up s 90 0 (s 7 0)) 7 1)) 90 2 ((px_up (px_up s 90 0 (s 7 0)) 90 1 ((px_up s 90 0 (s 7 0)) 7 1)) 7 2)) 7 3)) 7 4)) 7 5)) 7 6), .inr (.inr 90)]) (h1 := (px_G1, px_up (px_up (px_up (px_up (px_up (px_up s 90 0 (s 7 0)) 90 1 ((px_up s 90 0 (s 7 0)) 7 1)) 90 2 ((px_up (px_up s 90 0 (s 7 0)) 90 1 ((px_up s 90 0 (s 7 0)) 7 1)) 7 2)) 90 3 ((px_up (px_up (px_up s 90 0 (s 7 0)) 90 1 ((px_up s 90 0 (s 7 0)) 7 1)) 90 2 ((px_up (px_up s 90 0 (s 7 0)) 90 1 ((px_up s 90 0 (s 7 0)) 7 1)) 7 2)) 7 3)) 90 4 ((px_up (px_up (px_up (px_up s 90 0 (s 7 0)) 90 1 ((px_up s 90 0 (s 7 0)) 7 1)) 90 2 ((px_up (px_up s 90 0 (s 7 0)) 90 1 ((px_up s 90 0 (s 7 0)) 7 1)) 7 2)) 90 3 ((px_up (px_up (px_up s 90 0 (s 7 0)) 90 1 ((px_up s 90 0 (s 7 0)) 7 1)) 90 2 ((px_up (px_up s 90 0 (s 7 0)) 90 1 ((px_up s 90 0 (s 7 0)) 7 1)) 7 2)) 7 3)) 7 4)) 90 5 ((px_up (px_up (px_up (px_up (px_up s 90 0 (s 7 0)) 90 1 ((px_up s 90 0 (s 7 0)) 7 1)) 90 2 ((px_up (px_up s 90 0 (s 7 0)) 90 1 ((px_up s 90 0 (s 7 0)) 7 1)) 7 2)) 90 3 ((px_up (px_up (px_up s 90 0 (s 7 0)) 90 1 ((px_up s 90 0 (s 7 0)) 7 1)) 90 2 ((px_up (px_up s 90 0 (s 7 0)) 90 1 ((px_up s 90 0 (s 7 0)) 7 1)) 7 2)) 7 3)) 90 4 ((px_up (px_up (px_up (px_up s 90 0 (s 7 0)) 90 1 ((px_up s 90 0 (s 7 0)) 7 1)) 90 2 ((px_up (px_up s 90 0 (s 7 0)) 90 1 ((px_up s 90 0 (s 7 0)) 7 1)) 7 2)) 90 3 ((px_up (px_up (px_up s 90 0 (s 7 0)) 90 1 ((px_up s 90 0 (s 7 0)) 7 1)) 90 2 ((px_up (px_up s 90 0 (s 7 0)) 90 1 ((px_up s 90 0 (s 7 0)) 7 1)) 7 2)) 7 3)) 7 4)) 7 5))) rfl ?_
  by_cases hc1 : ((px_up (px_up (px_up (px_up (px_up (px_up s 90 0 (s 7 0)) 90 1 ((px_up s 90 0 (s 7 0)) 7 1)) 90 2 ((px_up (px_up s 90 0 (s 7 0)) 90 1 ((px_up s 90 0 (s 7 0)) 7 1)) 7 2)) 90 3 ((px_up (px_up (px_up s 90 0 (s 7 0)) 90 1 ((px_up s 90 0 (s 7 0)) 7 1)) 90 2 ((px_up (px_up s 90 0 (s 7 0)) 90 1 ((px_up s 90 0 (s 7 0)) 7 1)) 7 2)) 7 3)) 90 4 ((px_up (px_up (px_up (px_up s 90 0 (s 7 0)) 90 1 ((px_up s 90 0 (s 7 0)) 7 1)) 90 2 ((px_up (px_up s 90 0 (s 7 0)) 90 1 ((px_up s 90 0 (s 7 0)) 7 1)) 7 2)) 90 3 ((px_up (px_up (px_up s 90 0 (s 7 0)) 90 1 ((px_up s 90 0 (s 7 0)) 7 1)) 90 2 ((px_up (px_up s 90 0 (s 7 0)) 90 1 ((px_up s 90 0 (s 7 0)) 7 1)) 7 2)) 7 3)) 7 4)) 90 5 ((px_up (px_up (px_up (px_up (px_up s 90 0 (s 7 0)) 90 1 ((px_up s 90 0 (s 7 0)) 7 1)) 90 2 ((px_up (px_up s 90 0 (s 7 0)) 90 1 ((px_up s 90 0 (s 7 0)) 7 1)) 7 2)) 90 3 ((px_up (px_up (px_up s 90 0 (s 7 0)) 90 1 ((px_up s 90 0 (s 7 0)) 7 1)) 90 2 ((px_up (px_up s 90 0 (s 7 0)) 90 1 ((px_up s 90 0 (s 7 0)) 7 1)) 7 2)) 7 3)) 90 4 ((px_up (px_up (px_up (px_up s 90 0 (s 7 0)) 90 1 ((px_up s 90 0 (s 7 0)) 7 1)) 90 2 ((px_up (px_up s 90 0 (s 7 0)) 90 1 ((px_up s 90 0 (s 7 0)) 7 1)) 7 2)) 90 3 ((px_up (px_up (px_up s 90 0 (s 7 0)) 90 1 ((px_up s 90 0 (s 7 0)) 7 1)) 90 2 ((px_up (px_up s 90 0 (s 7 0)) 90 1 ((px_up s 90 0 (s 7 0)) 7 1)) 7 2)) 7 3)) 7 4)) 7 5)) 7 6) = 0 ∨ ((px_up (px_up (px_up (px_up (px_up (px_up s 90 0 (s 7 0)) 90 1 ((px_up s 90 0 (s 7 0)) 7 1)) 90 2 ((px_up (px_up s 90 0 (s 7 0)) 90 1 ((px_up s 90 0 (s 7 0)) 7 1)) 7 2)) 90 3 ((px_up (px_up (px_up s 90 0 (s 7 0)) 90 1 ((px_up s 90 0 (s 7 0)) 7 1)) 90 2 ((px_up (px_up s 90 0 (s 7 0)) 90 1 ((px_up s 90 0 (s 7 0)) 7 1)) 7 2)) 7 3)) 90 4 ((px_up (px_up (px_up (px_up s 90 0 (s 7 0)) 90 1 ((px_up s 90 0 (s 7 0)) 7 1)) 90 2 ((px_up (px_up s 90 0 (s 7 0)) 90 1 ((px_up s 90 0 (s 7 0)) 7 1)) 7 2)) 90 3 ((px_up (px_up (px_up s 90 0 (s 7 0)) 90 1 ((px_up s 90 0 (s 7 0)) 7 1)) 90 2 ((px_up (px_up s 90 0 (s 7 0)) 90 1 ((px_up s 90 0 (s 7 0)) 7 1)) 7 2)) 7 3)) 7 4)) 90 5 ((px_up (px_up (px_up (px_up (px_up s 90 0 (s 7 0)) 90 1 ((px_up s 90 0 (s 7 0)) 7 1)) 90 2 ((px_up (px_up s 90 0 (s 7 0)) 90 1 ((px_up s 90 0 (s 7 0)) 7 1)) 7 2)) 90 3 ((px_up (px_up (px_up s 90 0 (s 7 0)) 90 1 ((px_up s 90 0 (s 7 0)) 7 1)) 90 2 ((px_up (px_up s 90 0 (s 7 0)) 90 1 ((px_up s 90 0 (s 7 0)) 7 1)) 7 2)) 7 3)) 90 4 ((px_up (px_up (px_up (px_up s 90 0 (s 7 0)) 90 1 ((px_up s 90 0 (s 7 0)) 7 1)) 90 2 ((px_up (px_up s 90 0 (s 7 0)) 90 1 ((px_up s 90 0 (s 7 0)) 7 1)) 7 2)) 90 3 ((px_up (px_up (px_up s 90 0 (s 7 0)) 90 1 ((px_up s 90 0 (s 7 0)) 7 1)) 90 2 ((px_up (px_up s 90 0 (s 7 0)) 90 1 ((px_up s 90 0 (s 7 0)) 7 1)) 7 2)) 7 3)) 7 4)) 7 5)) 7 6) = 1
  case neg => rw [if_neg hc1] at h; cases h
  rw [if_pos hc1] at h
  refine px_D_putz (k := 85) rfl rfl rfl rfl hc1 ?_
  refine px_D_st 36 (ip1 := 64) (ls1 := [(0, .inr (.inr 90)), (1, .inr (.inr 7))]) (st1 := []) (h1 := (px_G1, px_cp (px_cp (px_cp (px_cp (px_up (px_up (px_up (px_up (px_up (px_up (px_up (px_up s 90 0 (s 7 0)) 90 1 ((px_up s 90 0 (s 7 0)) 7 1)) 90 2 ((px_up (px_up s 90 0 (s 7 0)) 90 1 ((px_up s 90 0 (s 7 0)) 7 1)) 7 2)) 90 3 ((px_up (px_up (px_up s 90 0 (s 7 0)) 90 1 ((px_up s 90 0 (s 7 0)) 7 1)) 90 2 ((px_up (px_up s 90 0 (s 7 0)) 90 1 ((px_up s 90 0 (s 7 0)) 7 1)) 7 2)) 7 3)) 90 4 ((px_up (px_up (px_up (px_up s 90 0 (s 7 0)) 90 1 ((px_up s 90 0 (s 7 0)) 7 1)) 90 2 ((px_up (px_up s 90 0 (s 7 0)) 90 1 ((px_up s 90 0 (s 7 0)) 7 1)) 7 2)) 90 3 ((px_up (px_up (px_up s 90 0 (s 7 0)) 90 1 ((px_up s 90 0 (s 7 0)) 7 1)) 90 2 ((px_up (px_up s 90 0 (s 7 0)) 90 1 ((px_up s 90 0 (s 7 0)) 7 1)) 7 2)) 7 3)) 7 4)) 90 5 ((px_up (px_up (px_up (px_up (px_up s 90 0 (s 7 0)) 90 1 ((px_up s 90 0 (s 7 0)) 7 1)) 90 2 ((px_up (px_up s 90 0 (s 7 0)) 90 1 ((px_up s 90 0 (s 7 0)) 7 1)) 7 2)) 90 3 ((px_up (px_up (px_up s 90 0 (s 7 0)) 90 1 ((px_up s 90 0 (s 7 0)) 7 1)) 90 2 ((px_up (px_up s 90 0 (s 7 0)) 90 1 ((px_up s 90 0 (s 7 0)) 7 1)) 7 2)) 7 3)) 90 4 ((px_up (px_up (px_up (px_up s 90 0 (s 7 0)) 90 1 ((px_up s 90 0 (s 7 0)) 7 1)) 90 2 ((px_up (px_up s 90 0 (s 7 0)) 90 1 ((px_up s 90 0 (s 7 0)) 7 1)) 7 2)) 90 3 ((px_up (px_up (px_up s 90 0 (s 7 0)) 90 1 ((px_up s 90 0 (s 7 0)) 7 1)) 90 2 ((px_up (px_up s 90 0 (s 7 0)) 90 1 ((px_up s 90 0 (s 7 0)) 7 1)) 7 2)) 7 3)) 7 4)) 7 5)) 90 6 ((px_up (px_up (px_up (px_up (px_up (px_up s 90 0 (s 7 0)) 90 1 ((px_up s 90 0 (s 7 0)) 7 1)) 90 2 ((px_up (px_up s 90 0 (s 7 0)) 90 1 ((px_up s 90 0 (s 7 0)) 7 1)) 7 2)) 90 3 ((px_up (px_up (px_up s 90 0 (s 7 0)) 90 1 ((px_up s 90 0 (s 7 0)) 7 1)) 90 2 ((px_up (px_up s 90 0 (s 7 0)) 90 1 ((px_up s 90 0 (s 7 0)) 7 1)) 7 2)) 7 3)) 90 4 ((px_up (px_up (px_up (px_up s 90 0 (s 7 0)) 90 1 ((px_up s 90 0 (s 7 0)) 7 1)) 90 2 ((px_up (px_up s 90 0 (s 7 0)) 90 1 ((px_up s 90 0 (s 7 0)) 7 1)) 7 2)) 90 3 ((px_up (px_up (px_up s 90 0 (s 7 0)) 90 1 ((px_up s 90 0 (s 7 0)) 7 1)) 90 2 ((px_up (px_up s 90 0 (s 7 0)) 90 1 ((px_up s 90 0 (s 7 0)) 7 1)) 7 2)) 7 3)) 7 4)) 90 5 ((px_up (px_up (px_up (px_up (px_up s 90 0 (s 7 0)) 90 1 ((px_up s 90 0 (s 7 0)) 7 1)) 90 2 ((px_up (px_up s 90 0 (s 7 0)) 90 1 ((px_up s 90 0 (s 7 0)) 7 1)) 7 2)) 90 3 ((px_up (px_up (px_up s 90 0 (s 7 0)) 90 1 ((px_up s 90 0 (s 7 0)) 7 1)) 90 2 ((px_up (px_up s 90 0 (s 7 0)) 90 1 ((px_up s 90 0 (s 7 0)) 7 1)) 7 2)) 7 3)) 90 4 ((px_up (px_up (px_up (px_up s 90 0 (s 7 0)) 90 1 ((px_up s 90 0 (s 7 0)) 7 1)) 90 2 ((px_up (px_up s 90 0 (s 7 0)) 90 1 ((px_up s 90 0 (s 7 0)) 7 1)) 7 2)) 90 3 ((px_up (px_up (px_up s 90 0 (s 7 0)) 90 1 ((px_up s 90 0 (s 7 0)) 7 1)) 90 2 ((px_up (px_up s 90 0 (s 7 0)) 90 1 ((px_up s 90 0 (s 7 0)) 7 1)) 7 2)) 7 3)) 7 4)) 7 5)) 7 6)) 90 7 ((px_up (px_up (px_up (px_up (px_up (px_up (px_up s 90 0 (s 7 0)) 90 1 ((px_up s 90 0 (s 7 0)) 7 1)) 90 2 ((px_up (px_up s 90 0 (s 7 0)) 90 1 ((px_up s 90 0 (s 7 0)) 7 1)) 7 2)) 90 3 ((px_up (px_up (px_up s 90 0 (s 7 0)) 90 1 ((px_up s 90 0 (s 7 0)) 7 1)) 90 2 ((px_up (px_up s 90 0 (s 7 0)) 90 1 ((px_up s 90 0 (s 7 0)) 7 1)) 7 2)) 7 3)) 90 4 ((px_up (px_up (px_up (px_up s 90 0 (s 7 0)) 90 1 ((px_up s 90 0 (s 7 0)) 7 1)) 90 2 ((px_up (px_up s 90 0 (s 7 0)) 90 1 ((px_up s 90 0 (s 7 0)) 7 1)) 7 2)) 90 3 ((px_up (px_up (px_up s 90 0 (s 7 0)) 90 1 ((px_up s 90 0 (s 7 0)) 7 1)) 90 2 ((px_up (px_up s 90 0 (s 7 0)) 90 1 ((px_up s 90 0 (s 7 0)) 7 1)) 7 2)) 7 3)) 7 4)) 90 5 ((px_up (px_up (px_up (px_up (px_up s 90 0 (s 7 0)) 90 1 ((px_up s 90 0 (s 7 0)) 7 1)) 90 2 ((px_up (px_up s 90 0 (s 7 0)) 90 1 ((px_up s 90 0 (s 7 0)) 7 1)) 7 2)) 90 3 ((px_up (px_up (px_up s 90 0 (s 7 0)) 90 1 ((px_up s 90 0 (s 7 0)) 7 1)) 90 2 ((px_up (px_up s 90 0 (s 7 0)) 90 1 ((px_up s 90 0 (s 7 0)) 7 1)) 7 2)) 7 3)) 90 4 ((px_up (px_up (px_up (px_up s 90 0 (s 7 0)) 90 1 ((px_up s 90 0 (s 7 0)) 7 1)) 90 2 ((px_up (px_up s 90 0 (s 7 0)) 90 1 ((px_up s 90 0 (s 7 0)) 7 1)) 7 2)) 90 3 ((px_up (px_up (px_up s 90 0 (s 7 0)) 90 1 ((px_up s 90 0 (s 7 0)) 7 1)) 90 2 ((px_up (px_up s 90 0 (s 7 0)) 90 1 ((px_up s 90 0 (s 7 0)) 7 1)) 7 2)) 7 3)) 7 4)) 7 5)) 90 6 ((px_up (px_up (px_up (px_up (px_up (px_up s 90 0 (s 7 0)) 90 1 ((px_up s 90 0 (s 7 0)) 7 1)) 90 2 ((px_up (px_up s 90 0 (s 7 0)) 90 1 ((px_up s 90 0 (s 7 0)) 7 1)) 7 2)) 90 3 ((px_up (px_up (px_up s 90 0 (s 7 0)) 90 1 ((px_up s 90 0 (s 7 0)) 7 1)) 90 2 ((px_up (px_up s 90 0 (s 7 0)) 90 1 ((px_up s 90 0 (s 7 0)) 7 1)) 7 2)) 7 3)) 90 4 ((px_up (px_up (px_up (px_up s 90 0 (s 7 0)) 90 1 ((px_up s 90 0 (s 7 0)) 7 1)) 90 2 ((px_up (px_up s 90 0 (s 7 0)) 90 1 ((px_up s 90 0 (s 7 0)) 7 1)) 7 2)) 90 3 ((px_up (px_up (px_up s 90 0 (s 7 0)) 90 1 ((px_up s 90 0 (s 7 0)) 7 1)) 90 2 ((px_up (px_up s 90 0 (s 7 0)) 90 1 ((px_up s 90 0 (s 7 0)) 7 1)) 7 2)) 7 3)) 7 4)) 90 5 ((px_up (px_up (px_up (px_up (px_up s 90 0 (s 7 0)) 90 1 ((px_up s 90 0 (s 7 0)) 7 1)) 90 2 ((px_up (px_up s 90 0 (s 7 0)) 90 1 ((px_up s 90 0 (s 7 0)) 7 1)) 7 2)) 90 3 ((px_up (px_up (px_up s 90 0 (s 7 0)) 90 1 ((px_up s 90 0 (s 7 0)) 7 1)) 90 2 ((px_up (px_up s 90 0 (s 7 0)) 90 1 ((px_up s 90 0 (s 7 0)) 7 1)) 7 2)) 7 3)) 90 4 ((px_up (px_up (px_up (px_up s 90 0 (s 7 0)) 90 1 ((px_up s 90 0 (s 7 0)) 7 1)) 90 2 ((px_up (px_up s 90 0 (s 7 0)) 90 1 ((px_up s 90 0 (s 7 0)) 7 1)) 7 2)) 90 3 ((px_up (px_up (px_up s 90 0 (s 7 0)) 90 1 ((px_up s 90 0 (s 7 0)) 7 1)) 90 2 ((px_up (px_up s 90 0 (s 7 0)) 90 1 ((px_up s 90 0 (s 7 0)) 7 1)) 7 2)) 7 3)) 7 4)) 7 5)) 7 6)) 7 7)) 8 91 0 0 8) 9 92 0 0 8) 10 93 0 0 8) 11 94 0 0 8)) rfl ?_
  cases h
  exact px_D_vret rfl ⟨rfl, rfl⟩

def f_Fate_become_2 (s : px_Z) : Option (px_Z) := if ((px_up (px_up (px_up (px_up (px_up (px_up s 110 0 (s 7 0)) 110 1 ((px_up s 110 0 (s 7 0)) 7 1)) 110 2 ((px_up (px_up s 110 0 (s 7 0)) 110 1 ((px_up s 110 0 (s 7 0)) 7 1)) 7 2)) 110 3 ((px_up (px_up (px_up s 110 0 (s 7 0)) 110 1 ((px_up s 110 0 (s 7 0)) 7 1)) 110 2 ((px_up (px_up s 110 0 (s 7 0)) 110 1 ((px_up s 110 0 (s 7 0)) 7 1)) 7 2)) 7 3)) 110 4 ((px_up (px_up (px_up (px_up s 110 0 (s 7 0)) 110 1 ((px_up s 110 0 (s 7 0)) 7 1)) 110 2 ((px_up (px_up s 110 0 (s 7 0)) 110 1 ((px_up s 110 0 (s 7 0)) 7 1)) 7 2)) 110 3 ((px_up (px_up (px_up s 110 0 (s 7 0)) 110 1 ((px_up s 110 0 (s 7 0)) 7 1)) 110 2 ((px_up (px_up s 110 0 (s 7 0)) 110 1 ((px_up s 110 0 (s 7 0)) 7 1)) 7 2)) 7 3)) 7 4)) 110 5 ((px_up (px_up (px_up (px_up (px_up s 110 0 (s 7 0)) 110 1 ((px_up s 110 0 (s 7 0)) 7 1)) 110 2 ((px_up (px_up s 110 0 (s 7 0)) 110 1 ((px_up s 110 0 (s 7 0)) 7 1)) 7 2)) 110 3 ((px_up (px_up (px_up s 110 0 (s 7 0)) 110 1 ((px_up s 110 0 (s 7 0)) 7 1)) 110 2 ((px_up (px_up s 110 0 (s 7 0)) 110 1 ((px_up s 110 0 (s 7 0)) 7 1)) 7 2)) 7 3)) 110 4 ((px_up (px_up (px_up (px_up s 110 0 (s 7 0)) 110 1 ((px_up s 110 0 (s 7 0)) 7 1)) 110 2 ((px_up (px_up s 110 0 (s 7 0)) 110 1 ((px_up s 110 0 (s 7 0)) 7 1)) 7 2)) 110 3 ((px_up (px_up (px_up s 110 0 (s 7 0)) 110 1 ((px_up s 110 0 (s 7 0)) 7 1)) 110 2 ((px_up (px_up s 110 0 (s 7 0)) 110 1 ((px_up s 110 0 (s 7 0)) 7 1)) 7 2)) 7 3)) 7 4)) 7 5)) 7 6) = 0 ∨ ((px_up (px_up (px_up (px_up (px_up (px_up s 110 0 (s 7 0)) 110 1 ((px_up s 110 0 (s 7 0)) 7 1)) 110 2 ((px_up (px_up s 110 0 (s 7 0)) 110 1 ((px_up s 110 0 (s 7 0)) 7 1)) 7 2)) 110 3 ((px_up (px_up (px_up s 110 0 (s 7 0)) 110 1 ((px_up s 110 0 (s 7 0)) 7 1)) 110 2 ((px_up (px_up s 110 0 (s 7 0)) 110 1 ((px_up s 110 0 (s 7 0)) 7 1)) 7 2)) 7 3)) 110 4 ((px_up (px_up (px_up (px_up s 110 0 (s 7 0)) 110 1 ((px_up s 110 0 (s 7 0)) 7 1)) 110 2 ((px_up (px_up s 110 0 (s 7 0)) 110 1 ((px_up s 110 0 (s 7 0)) 7 1)) 7 2)) 110 3 ((px_up (px_up (px_up s 110 0 (s 7 0)) 110 1 ((px_up s 110 0 (s 7 0)) 7 1)) 110 2 ((px_up (px_up s 110 0 (s 7 0)) 110 1 ((px_up s 110 0 (s 7 0)) 7 1)) 7 2)) 7 3)) 7 4)) 110 5 ((px_up (px_up (px_up (px_up (px_up s 110 0 (s 7 0)) 110 1 ((px_up s 110 0 (s 7 0)) 7 1)) 110 2 ((px_up (px_up s 110 0 (s 7 0)) 110 1 ((px_up s 110 0 (s 7 0)) 7 1)) 7 2)) 110 3 ((px_up (px_up (px_up s 110 0 (s 7 0)) 110 1 ((px_up s 110 0 (s 7 0)) 7 1)) 110 2 ((px_up (px_up s 110 0 (s 7 0)) 110 1 ((px_up s 110 0 (s 7 0)) 7 1)) 7 2)) 7 3)) 110 4 ((px_up (px_up (px_up (px_up s 110 0 (s 7 0)) 110 1 ((px_up s 110 0 (s 7 0)) 7 1)) 110 2 ((px_up (px_up s 110 0 (s 7 0)) 110 1 ((px_up s 110 0 (s 7 0)) 7 1)) 7 2)) 110 3 ((px_up (px_up (px_up s 110 0 (s 7 0)) 110 1 ((px_up s 110 0 (s 7 0)) 7 1)) 110 2 ((px_up (px_up s 110 0 (s 7 0)) 110 1 ((px_up s 110 0 (s 7 0)) 7 1)) 7 2)) 7 3)) 7 4)) 7 5)) 7 6) = 1 then some (px_cp (px_cp (px_cp (px_cp (px_up (px_up (px_up (px_up (px_up (px_up (px_up (px_up s 110 0 (s 7 0)) 110 1 ((px_up s 110 0 (s 7 0)) 7 1)) 110 2 ((px_up (px_up s 110 0 (s 7 0)) 110 1 ((px_up s 110 0 (s 7 0)) 7 1)) 7 2)) 110 3 ((px_up (px_up (px_up s 110 0 (s 7 0)) 110 1 ((px_up s 110 0 (s 7 0)) 7 1)) 110 2 ((px_up (px_up s 110 0 (s 7 0)) 110 1 ((px_up s 110 0 (s 7 0)) 7 1)) 7 2)) 7 3)) 110 4 ((px_up (px_up (px_up (px_up s 110 0 (s 7 0)) 110 1 ((px_up s 110 0 (s 7 0)) 7 1)) 110 2 ((px_up (px_up s 110 0 (s 7 0)) 110 1 ((px_up s 110 0 (s 7 0)) 7 1)) 7 2)) 110 3 ((px_up (px_up (px_up s 110 0 (s 7 0)) 110 1 ((px_up s 110 0 (s 7 0)) 7 1)) 110 2 ((px_up (px_up s 110 0 (s 7 0)) 110 1 ((px_up s 110 0 (s 7 0)) 7 1)) 7 2)) 7 3)) 7 4)) 110 5 ((px_up (px_up (px_up (px_up (px_up s 110 0 (s 7 0)) 110 1 ((px_up s 110 0 (s 7 0)) 7 1)) 110 2 ((px_up (px_up s 110 0 (s 7 0)) 110 1 ((px_up s 110 0 (s 7 0)) 7 1)) 7 2)) 110 3 ((px_up (px_up (px_up s 110 0 (s 7 0)) 110 1 ((px_up s 110 0 (s 7 0)) 7 1)) 110 2 ((px_up (px_up s 110 0 (s 7 0)) 110 1 ((px_up s 110 0 (s 7 0)) 7 1)) 7 2)) 7 3)) 110 4 ((px_up (px_up (px_up (px_up s 110 0 (s 7 0)) 110 1 ((px_up s 110 0 (s 7 0)) 7 1)) 110 2 ((px_up (px_up s 110 0 (s 7 0)) 110 1 ((px_up s 110 0 (s 7 0)) 7 1)) 7 2)) 110 3 ((px_up (px_up (px_up s 110 0 (s 7 0)) 110 1 ((px_up s 110 0 (s 7 0)) 7 1)) 110 2 ((px_up (px_up s 110 0 (s 7 0)) 110 1 ((px_up s 110 0 (s 7 0)) 7 1)) 7 2)) 7 3)) 7 4)) 7 5)) 110 6 ((px_up (px_up (px_up (px_up (px_up (px_up s 110 0 (s 7 0)) 110 1 ((px_up s 110 0 (s 7 0)) 7 1)) 110 2 ((px_up (px_up s 110 0 (s 7 0)) 110 1 ((px_up s 110 0 (s 7 0)) 7 1)) 7 2)) 110 3 ((px_up (px_up (px_up s 110 0 (s 7 0)) 110 1 ((px_up s 110 0 (s 7 0)) 7 1)) 110 2 ((px_up (px_up s 110 0 (s 7 0)) 110 1 ((px_up s 110 0 (s 7 0)) 7 1)) 7 2)) 7 3)) 110 4 ((px_up (px_up (px_up (px_up s 110 0 (s 7 0)) 110 1 ((px_up s 110 0 (s 7 0)) 7 1)) 110 2 ((px_up (px_up s 110 0 (s 7 0)) 110 1 ((px_up s 110 0 (s 7 0)) 7 1)) 7 2)) 110 3 ((px_up (px_up (px_up s 110 0 (s 7 0)) 110 1 ((px_up s 110 0 (s 7 0)) 7 1)) 110 2 ((px_up (px_up s 110 0 (s 7 0)) 110 1 ((px_up s 110 0 (s 7 0)) 7 1)) 7 2)) 7 3)) 7 4)) 110 5 ((px_up (px_up (px_up (px_up (px_up s 110 0 (s 7 0)) 110 1 ((px_up s 110 0 (s 7 0)) 7 1)) 110 2 ((px_up (px_up s 110 0 (s 7 0)) 110 1 ((px_up s 110 0 (s 7 0)) 7 1)) 7 2)) 110 3 ((px_up (px_up (px_up s 110 0 (s 7 0)) 110 1 ((px_up s 110 0 (s 7 0)) 7 1)) 110 2 ((px_up (px_up s 110 0 (s 7 0)) 110 1 ((px_up s 110 0 (s 7 0)) 7 1)) 7 2)) 7 3)) 110 4 ((px_up (px_up (px_up (px_up s 110 0 (s 7 0)) 110 1 ((px_up s 110 0 (s 7 0)) 7 1)) 110 2 ((px_up (px_up s 110 0 (s 7 0)) 110 1 ((px_up s 110 0 (s 7 0)) 7 1)) 7 2)) 110 3 ((px_up (px_up (px_up s 110 0 (s 7 0)) 110 1 ((px_up s 110 0 (s 7 0)) 7 1)) 110 2 ((px_up (px_up s 110 0 (s 7 0)) 110 1 ((px_up s 110 0 (s 7 0)) 7 1)) 7 2)) 7 3)) 7 4)) 7 5)) 7 6)) 110 7 ((px_up (px_up (px_up (px_up (px_up (px_up (px_up s 110 0 (s 7 0)) 110 1 ((px_up s 110 0 (s 7 0)) 7 1)) 110 2 ((px_up (px_up s 110 0 (s 7 0)) 110 1 ((px_up s 110 0 (s 7 0)) 7 1)) 7 2)) 110 3 ((px_up (px_up (px_up s 110 0 (s 7 0)) 110 1 ((px_up s 110 0 (s 7 0)) 7 1)) 110 2 ((px_up (px_up s 110 0 (s 7 0)) 110 1 ((px_up s 110 0 (s 7 0)) 7 1)) 7 2)) 7 3)) 110 4 ((px_up (px_up (px_up (px_up s 110 0 (s 7 0)) 110 1 ((px_up s 110 0 (s 7 0)) 7 1)) 110 2 ((px_up (px_up s 110 0 (s 7 0)) 110 1 ((px_up s 110 0 (s 7 0)) 7 1)) 7 2)) 110 3 ((px_up (px_up (px_up s 110 0 (s 7 0)) 110 1 ((px_up s 110 0 (s 7 0)) 7 1)) 110 2 ((px_up (px_up s 110 0 (s 7 0)) 110 1 ((px_up s 110 0 (s 7 0)) 7 1)) 7 2)) 7 3)) 7 4)) 110 5 ((px_up (px_up (px_up (px_up (px_up s 110 0 (s 7 0)) 110 1 ((px_up s 110 0 (s 7 0)) 7 1)) 110 2 ((px_up (px_up s 110 0 (s 7 0)) 110 1 ((px_up s 110 0 (s 7 0)) 7 1)) 7 2)) 110 3 ((px_up (px_up (px_up s 110 0 (s 7 0)) 110 1 ((px_up s 110 0 (s 7 0)) 7 1)) 110 2 ((px_up (px_up s 110 0 (s 7 0)) 110 1 ((px_up s 110 0 (s 7 0)) 7 1)) 7 2)) 7 3)) 110 4 ((px_up (px_up (px_up (px_up s 110 0 (s 7 0)) 110 1 ((px_up s 110 0 (s 7 0)) 7 1)) 110 2 ((px_up (px_up s 110 0 (s 7 0)) 110 1 ((px_up s 110 0 (s 7 0)) 7 1)) 7 2)) 110 3 ((px_up (px_up (px_up s 110 0 (s 7 0)) 110 1 ((px_up s 110 0 (s 7 0)) 7 1)) 110 2 ((px_up (px_up s 110 0 (s 7 0)) 110 1 ((px_up s 110 0 (s 7 0)) 7 1)) 7 2)) 7 3)) 7 4)) 7 5)) 110 6 ((px_up (px_up (px_up (px_up (px_up (px_up s 110 0 (s 7 0)) 110 1 ((px_up s 110 0 (s 7 0)) 7 1)) 110 2 ((px_up (px_up s 110 0 (s 7 0)) 110 1 ((px_up s 110 0 (s 7 0)) 7 1)) 7 2)) 110 3 ((px_up (px_up (px_up s 110 0 (s 7 0)) 110 1 ((px_up s 110 0 (s 7 0)) 7 1)) 110 2 ((px_up (px_up s 110 0 (s 7 0)) 110 1 ((px_up s 110 0 (s 7 0)) 7 1)) 7 2)) 7 3)) 110 4 ((px_up (px_up (px_up (px_up s 110 0 (s 7 0)) 110 1 ((px_up s 110 0 (s 7 0)) 7 1)) 110 2 ((px_up (px_up s 110 0 (s 7 0)) 110 1 ((px_up s 110 0 (s 7 0)) 7 1)) 7 2)) 110 3 ((px_up (px_up (px_up s 110 0 (s 7 0)) 110 1 ((px_up s 110 0 (s 7 0)) 7 1)) 110 2 ((px_up (px_up s 110 0 (s 7 0)) 110 1 ((px_up s 110 0 (s 7 0)) 7 1)) 7 2)) 7 3)) 7 4)) 110 5 ((px_up (px_up (px_up (px_up (px_up s 110 0 (s 7 0)) 110 1 ((px_up s 110 0 (s 7 0)) 7 1)) 110 2 ((px_up (px_up s 110 0 (s 7 0)) 110 1 ((px_up s 110 0 (s 7 0)) 7 1)) 7 2)) 110 3 ((px_up (px_up (px_up s 110 0 (s 7 0)) 110 1 ((px_up s 110 0 (s 7 0)) 7 1)) 110 2 ((px_up (px_up s 110 0 (s 7 0)) 110 1 ((px_up s 110 0 (s 7 0)) 7 1)) 7 2)) 7 3)) 110 4 ((px_up (px_up (px_up (px_up s 110 0 (s 7 0)) 110 1 ((px_up s 110 0 (s 7 0)) 7 1)) 110 2 ((px_up (px_up s 110 0 (s 7 0)) 110 1 ((px_up s 110 0 (s 7 0)) 7 1)) 7 2)) 110 3 ((px_up (px_up (px_up s 110 0 (s 7 0)) 110 1 ((px_up s 110 0 (s 7 0)) 7 1)) 110 2 ((px_up (px_up s 110 0 (s 7 0)) 110 1 ((px_up s 110 0 (s 7 0)) 7 1)) 7 2)) 7 3)) 7 4)) 7 5)) 7 6)) 7 7)) 8 111 0 0 8) 9 112 0 0 8) 10 113 0 0 8) 11 114 0 0 8) else none
set_option maxHeartbeats 4000000 in
set_option maxRecDepth 100000 in
theorem c_Fate_become_2 {sc : List Int} {d : Nat} {s : px_Z} {out : px_Z} (h : f_Fate_become_2 s  = some out) : px_D sc (d + 0) 1 0 [(0, .inr (.inr 110)), (1, .inr (.inr 7))] [] (px_G1, s) (px_Qv out) := by
  unfold f_Fate_become_2 at h
  refine px_D_st 27 (ip1 := 27) (ls1 := [(0, .inr (.inr 110)), (1, .inr (.inr 7))]) (st1 := [.inl ((px_up (px_up (px_up (px_up (px_up (px_up s 110 0 (s 7 0)) 110 1 ((px_up s 110 0 (s 7 0)) 7 1)) 110 2 ((px_up (px_up s 110 0 (s 7 0)) 110 1 ((px_up s 110 0 (s 7 0)) 7 1)) 7 2)) 110 3 ((px_up (px_up (px_up s 110 0 (s 7 0)) 110 1 ((px_up s 110 0 (s 7 0)) 7 1)) 110 2 ((px_up (px_up s 110 0 (s 7 0)) 110 1 ((px_up s 110 0 (s 7 0)) 7 1)) 7 2)) 7 3)) 110 4 ((px_up (px_up (px_up (px_up s 110 0 (s 7 0)) 110 1 ((px_up s 110 0 (s 7 0)) 7 1)) 110 2 ((px_up (px_up s 110 0 (s 7 0)) 110 1 ((px_up s 110 0 (s 7 0)) 7 1)) 7 2)) 110 3 ((px_up (px_up (px_up s 110 0 (s 7 0)) 110 1 ((px_up s 110 0 (s 7 0)) 7 1)) 110 2 ((px_up (px_up s 110 0 (s 7 0)) 110 1 ((px_up s 110 0 (s 7 0)) 7 1)) 7 2)) 7 3)) 7 4)) 110 5 ((px_up (px_up (px_up (px_up (px_up s 110 0 (s 7 0)) 110 1 ((px_up s 110 0 (s 7 0)) 7 1)) 110 2 ((px_up (px_up s 110 0 (s 7 0)) 110 1 ((px_up s 110 0 (s 7 0)) 7 1)) 7 2)) 110 3 ((px_up (px_up (px_up s 110 0 (s 7 0)) 110 1 ((px_up s 110 0 (s 7 0)) 7 1)) 110 2 ((px_up (px_up s 110 0 (s 7 0)) 110 1 ((px_up s 110 0 (s 7 0)) 7 1)) 7 2)) 7 3)) 110 4 ((px_up (px_up (px_up (px_up s 110 0 (s 7 0)) 110 1 ((px_up s 110 0 (s 7 0)) 7 1)) 110 2 ((px_up (px_up s 110 0 (s 7 0)) 110 1 ((px_up s 110 0 (s 7 0)) 7 1)) 7 2)) 110 3 ((px_up (px_up (px_up s 110 0 (s 7 0)) 110 1 ((px_up s 110 0 (s 7 0)) 7 1)) 110 2 ((px_up (px_up s 110 0 (s 7 0)) 110 1 ((px_up s 110 0 (s 7 0)) 7 1)) 7 2)) 7 3)) 7 4)) 7 5)) 7 6), .inr (.inr 110)]) (h1 := (px_G1, px_up (px_up (px_up (px_up (px_up (px_up s 110 0 (s 7 0)) 110 1 ((px_up s 110 0 (s 7 0)) 7 1)) 110 2 ((px_up (px_up s 110 0 (s 7 0)) 110 1 ((px_up s 110 0 (s 7 0)) 7 1)) 7 2)) 110 3 ((px_up (px_up (px_up s 110 0 (s 7 0)) 110 1 ((px_up s 110 0 (s 7 0)) 7 1)) 110 2 ((px_up (px_up s 110 0 (s 7 0)) 110 1 ((px_up s 110 0 (s 7 0)) 7 1)) 7 2)) 7 3)) 110 4 ((px_up (px_up (px_up (px_up s 110 0 (s 7 0)) 110 1 ((px_up s 110 0 (s 7 0)) 7 1)) 110 2 ((px_up (px_up s 110 0 (s 7 0)) 110 1 ((px_up s 110 0 (s 7 0)) 7 1)) 7 2)) 110 3 ((px_up (px_up (px_up s 110 0 (s 7 0)) 110 1 ((px_up s 110 0 (s 7 0)) 7 1)) 110 2 ((px_up (px_up s 110 0 (s 7 0)) 110 1 ((px_up s 110 0 (s 7 0)) 7 1)) 7 2)) 7 3)) 7 4)) 110 5 ((px_up (px_up (px_up (px_up (px_up s 110 0 (s 7 0)) 110 1 ((px_up s 110 0 (s 7 0)) 7 1)) 110 2 ((px_up (px_up s 110 0 (s 7 0)) 110 1 ((px_up s 110 0 (s 7 0)) 7 1)) 7 2)) 110 3 ((px_up (px_up (px_up s 110 0 (s 7 0)) 110 1 ((px_up s 110 0 (s 7 0)) 7 1)) 110 2 ((px_up (px_up s 110 0 (s 7 0)) 110 1 ((px_up s 110 0 (s 7 0)) 7 1)) 7 2)) 7 3)) 110 4 ((px_up (px_up (px_up (px_up s 110 0 (s 7 0)) 110 1 ((px_up s 110 0 (s 7 0)) 7 1)) 110 2 ((px_up (px_up s 110 0 (s 7 0)) 110 1 ((px_up s 110 0 (s 7 0)) 7 1)) 7 2)) 110 3 ((px_up (px_up (px_up s 110 0 (s 7 0)) 110 1 ((px_up s 110 0 (s 7 0)) 7 1)) 110 2 ((px_up (px_up s 110 0 (s 7 0)) 110 1 ((px_up s 110 0 (s 7 0)) 7 1)) 7 2)) 7 3)) 7 4)) 7 5))) rfl ?_
  by_cases hc1 : ((px_up (px_up (px_up (px_up (px_up (px_up s 110 0 (s 7 0)) 110 1 ((px_up s 110 0 (s 7 0)) 7 1)) 110 2 ((px_up (px_up s 110 0 (s 7 0)) 110 1 ((px_up s 110 0 (s 7 0)) 7 1)) 7 2)) 110 3 ((px_up (px_up (px_up s 110 0 (s 7 0)) 110 1 ((px_up s 110 0 (s 7 0)) 7 1)) 110 2 ((px_up (px_up s 110 0 (s 7 0)) 110 1 ((px_up s 110 0 (s 7 0)) 7 1)) 7 2)) 7 3)) 110 4 ((px_up (px_up (px_up (px_up s 110 0 (s 7 0)) 110 1 ((px_up s 110 0 (s 7 0)) 7 1)) 110 2 ((px_up (px_up s 110 0 (s 7 0)) 110 1 ((px_up s 110 0 (s 7 0)) 7 1)) 7 2)) 110 3 ((px_up (px_up (px_up s 110 0 (s 7 0)) 110 1 ((px_up s 110 0 (s 7 0)) 7 1)) 110 2 ((px_up (px_up s 110 0 (s 7 0)) 110 1 ((px_up s 110 0 (s 7 0)) 7 1)) 7 2)) 7 3)) 7 4)) 110 5 ((px_up (px_up (px_up (px_up (px_up s 110 0 (s 7 0)) 110 1 ((px_up s 110 0 (s 7 0)) 7 1)) 110 2 ((px_up (px_up s 110 0 (s 7 0)) 110 1 ((px_up s 110 0 (s 7 0)) 7 1)) 7 2)) 110 3 ((px_up (px_up (px_up s 110 0 (s 7 0)) 110 1 ((px_up s 110 0 (s 7 0)) 7 1)) 110 2 ((px_up (px_up s 110 0 (s 7 0)) 110 1 ((px_up s 110 0 (s 7 0)) 7 1)) 7 2)) 7 3)) 110 4 ((px_up (px_up (px_up (px_up s 110 0 (s 7 0)) 110 1 ((px_up s 110 0 (s 7 0)) 7 1)) 110 2 ((px_up (px_up s 110 0 (s 7 0)) 110 1 ((px_up s 110 0 (s 7 0)) 7 1)) 7 2)) 110 3 ((px_up (px_up (px_up s 110 0 (s 7 0)) 110 1 ((px_up s 110 0 (s 7 0)) 7 1)) 110 2 ((px_up (px_up s 110 0 (s 7 0)) 110 1 ((px_up s 110 0 (s 7 0)) 7 1)) 7 2)) 7 3)) 7 4)) 7 5)) 7 6) = 0 ∨ ((px_up (px_up (px_up (px_up (px_up (px_up s 110 0 (s 7 0)) 110 1 ((px_up s 110 0 (s 7 0)) 7 1)) 110 2 ((px_up (px_up s 110 0 (s 7 0)) 110 1 ((px_up s 110 0 (s 7 0)) 7 1)) 7 2)) 110 3 ((px_up (px_up (px_up s 110 0 (s 7 0)) 110 1 ((px_up s 110 0 (s 7 0)) 7 1)) 110 2 ((px_up (px_up s 110 0 (s 7 0)) 110 1 ((px_up s 110 0 (s 7 0)) 7 1)) 7 2)) 7 3)) 110 4 ((px_up (px_up (px_up (px_up s 110 0 (s 7 0)) 110 1 ((px_up s 110 0 (s 7 0)) 7 1)) 110 2 ((px_up (px_up s 110 0 (s 7 0)) 110 1 ((px_up s 110 0 (s 7 0)) 7 1)) 7 2)) 110 3 ((px_up (px_up (px_up s 110 0 (s 7 0)) 110 1 ((px_up s 110 0 (s 7 0)) 7 1)) 110 2 ((px_up (px_up s 110 0 (s 7 0)) 110 1 ((px_up s 110 0 (s 7 0)) 7 1)) 7 2)) 7 3)) 7 4)) 110 5 ((px_up (px_up (px_up (px_up (px_up s 110 0 (s 7 0)) 110 1 ((px_up s 110 0 (s 7 0)) 7 1)) 110 2 ((px_up (px_up s 110 0 (s 7 0)) 110 1 ((px_up s 110 0 (s 7 0)) 7 1)) 7 2)) 110 3 ((px_up (px_up (px_up s 110 0 (s 7 0)) 110 1 ((px_up s 110 0 (s 7 0)) 7 1)) 110 2 ((px_up (px_up s 110 0 (s 7 0)) 110 1 ((px_up s 110 0 (s 7 0)) 7 1)) 7 2)) 7 3)) 110 4 ((px_up (px_up (px_up (px_up s 110 0 (s 7 0)) 110 1 ((px_up s 110 0 (s 7 0)) 7 1)) 110 2 ((px_up (px_up s 110 0 (s 7 0)) 110 1 ((px_up s 110 0 (s 7 0)) 7 1)) 7 2)) 110 3 ((px_up (px_up (px_up s 110 0 (s 7 0)) 110 1 ((px_up s 110 0 (s 7 0)) 7 1)) 110 2 ((px_up (px_up s 110 0 (s 7 0)) 110 1 ((px_up s 110 0 (s 7 0)) 7 1)) 7 2)) 7 3)) 7 4)) 7 5)) 7 6) = 1
  case neg => rw [if_neg hc1] at h; cases h
  rw [if_pos hc1] at h
  refine px_D_putz (k := 105) rfl rfl rfl rfl hc1 ?_
  refine px_D_st 36 (ip1 := 64) (ls1 := [(0, .inr (.inr 110)), (1, .inr (.inr 7))]) (st1 := []) (h1 := (px_G1, px_cp (px_cp (px_cp (px_cp (px_up (px_up (px_up (px_up (px_up (px_up (px_up (px_up s 110 0 (s 7 0)) 110 1 ((px_up s 110 0 (s 7 0)) 7 1)) 110 2 ((px_up (px_up s 110 0 (s 7 0)) 110 1 ((px_up s 110 0 (s 7 0)) 7 1)) 7 2)) 110 3 ((px_up (px_up (px_up s 110 0 (s 7 0)) 110 1 ((px_up s 110 0 (s 7 0)) 7 1)) 110 2 ((px_up (px_up s 110 0 (s 7 0)) 110 1 ((px_up s 110 0 (s 7 0)) 7 1)) 7 2)) 7 3)) 110 4 ((px_up (px_up (px_up (px_up s 110 0 (s 7 0)) 110 1 ((px_up s 110 0 (s 7 0)) 7 1)) 110 2 ((px_up (px_up s 110 0 (s 7 0)) 110 1 ((px_up s 110 0 (s 7 0)) 7 1)) 7 2)) 110 3 ((px_up (px_up (px_up s 110 0 (s 7 0)) 110 1 ((px_up s 110 0 (s 7 0)) 7 1)) 110 2 ((px_up (px_up s 110 0 (s 7 0)) 110 1 ((px_up s 110 0 (s 7 0)) 7 1)) 7 2)) 7 3)) 7 4)) 110 5 ((px_up (px_up (px_up (px_up (px_up s 110 0 (s 7 0)) 110 1 ((px_up s 110 0 (s 7 0)) 7 1)) 110 2 ((px_up (px_up s 110 0 (s 7 0)) 110 1 ((px_up s 110 0 (s 7 0)) 7 1)) 7 2)) 110 3 ((px_up (px_up (px_up s 110 0 (s 7 0)) 110 1 ((px_up s 110 0 (s 7 0)) 7 1)) 110 2 ((px_up (px_up s 110 0 (s 7 0)) 110 1 ((px_up s 110 0 (s 7 0)) 7 1)) 7 2)) 7 3)) 110 4 ((px_up (px_up (px_up (px_up s 110 0 (s 7 0)) 110 1 ((px_up s 110 0 (s 7 0)) 7 1)) 110 2 ((px_up (px_up s 110 0 (s 7 0)) 110 1 ((px_up s 110 0 (s 7 0)) 7 1)) 7 2)) 110 3 ((px_up (px_up (px_up s 110 0 (s 7 0)) 110 1 ((px_up s 110 0 (s 7 0)) 7 1)) 110 2 ((px_up (px_up s 110 0 (s 7 0)) 110 1 ((px_up s 110 0 (s 7 0)) 7 1)) 7 2)) 7 3)) 7 4)) 7 5)) 110 6 ((px_up (px_up (px_up (px_up (px_up (px_up s 110 0 (s 7 0)) 110 1 ((px_up s 110 0 (s 7 0)) 7 1)) 110 2 ((px_up (px_up s 110 0 (s 7 0)) 110 1 ((px_up s 110 0 (s 7 0)) 7 1)) 7 2)) 110 3 ((px_up (px_up (px_up s 110 0 (s 7 0)) 110 1 ((px_up s 110 0 (s 7 0)) 7 1)) 110 2 ((px_up (px_up s 110 0 (s 7 0)) 110 1 ((px_up s 110 0 (s 7 0)) 7 1)) 7 2)) 7 3)) 110 4 ((px_up (px_up (px_up (px_up s 110 0 (s 7 0)) 110 1 ((px_up s 110 0 (s 7 0)) 7 1)) 110 2 ((px_up (px_up s 110 0 (s 7 0)) 110 1 ((px_up s 110 0 (s 7 0)) 7 1)) 7 2)) 110 3 ((px_up (px_up (px_up s 110 0 (s 7 0)) 110 1 ((px_up s 110 0 (s 7 0)) 7 1)) 110 2 ((px_up (px_up s 110 0 (s 7 0)) 110 1 ((px_up s 110 0 (s 7 0)) 7 1)) 7 2)) 7 3)) 7 4)) 110 5 ((px_up (px_up (px_up (px_up (px_up s 110 0 (s 7 0)) 110 1 ((px_up s 110 0 (s 7 0)) 7 1)) 110 2 ((px_up (px_up s 110 0 (s 7 0)) 110 1 ((px_up s 110 0 (s 7 0)) 7 1)) 7 2)) 110 3 ((px_up (px_up (px_up s 110 0 (s 7 0)) 110 1 ((px_up s 110 0 (s 7 0)) 7 1)) 110 2 ((px_up (px_up s 110 0 (s 7 0)) 110 1 ((px_up s 110 0 (s 7 0)) 7 1)) 7 2)) 7 3)) 110 4 ((px_up (px_up (px_up (px_up s 110 0 (s 7 0)) 110 1 ((px_up s 110 0 (s 7 0)) 7 1)) 110 2 ((px_up (px_up s 110 0 (s 7 0)) 110 1 ((px_up s 110 0 (s 7 0)) 7 1)) 7 2)) 110 3 ((px_up (px_up (px_up s 110 0 (s 7 0)) 110 1 ((px_up s 110 0 (s 7 0)) 7 1)) 110 2 ((px_up (px_up s 110 0 (s 7 0)) 110 1 ((px_up s 110 0 (s 7 0)) 7 1)) 7 2)) 7 3)) 7 4)) 7 5)) 7 6)) 110 7 ((px_up (px_up (px_up (px_up (px_up (px_up (px_up s 110 0 (s 7 0)) 110 1 ((px_up s 110 0 (s 7 0)) 7 1)) 110 2 ((px_up (px_up s 110 0 (s 7 0)) 110 1 ((px_up s 110 0 (s 7 0)) 7 1)) 7 2)) 110 3 ((px_up (px_up (px_up s 110 0 (s 7 0)) 110 1 ((px_up s 110 0 (s 7 0)) 7 1)) 110 2 ((px_up (px_up s 110 0 (s 7 0)) 110 1 ((px_up s 110 0 (s 7 0)) 7 1)) 7 2)) 7 3)) 110 4 ((px_up (px_up (px_up (px_up s 110 0 (s 7 0)) 110 1 ((px_up s 110 0 (s 7 0)) 7 1)) 110 2 ((px_up (px_up s 110 0 (s 7 0)) 110 1 ((px_up s 110 0 (s 7 0)) 7 1)) 7 2)) 110 3 ((px_up (px_up (px_up s 110 0 (s 7 0)) 110 1 ((px_up s 110 0 (s 7 0)) 7 1)) 110 2 ((px_up (px_up s 110 0 (s 7 0)) 110 1 ((px_up s 110 0 (s 7 0)) 7 1)) 7 2)) 7 3)) 7 4)) 110 5 ((px_up (px_up (px_up (px_up (px_up s 110 0 (s 7 0)) 110 1 ((px_up s 110 0 (s 7 0)) 7 1)) 110 2 ((px_up (px_up s 110 0 (s 7 0)) 110 1 ((px_up s 110 0 (s 7 0)) 7 1)) 7 2)) 110 3 ((px_up (px_up (px_up s 110 0 (s 7 0)) 110 1 ((px_up s 110 0 (s 7 0)) 7 1)) 110 2 ((px_up (px_up s 110 0 (s 7 0)) 110 1 ((px_up s 110 0 (s 7 0)) 7 1)) 7 2)) 7 3)) 110 4 ((px_up (px_up (px_up (px_up s 110 0 (s 7 0)) 110 1 ((px_up s 110 0 (s 7 0)) 7 1)) 110 2 ((px_up (px_up s 110 0 (s 7 0)) 110 1 ((px_up s 110 0 (s 7 0)) 7 1)) 7 2)) 110 3 ((px_up (px_up (px_up s 110 0 (s 7 0)) 110 1 ((px_up s 110 0 (s 7 0)) 7 1)) 110 2 ((px_up (px_up s 110 0 (s 7 0)) 110 1 ((px_up s 110 0 (s 7 0)) 7 1)) 7 2)) 7 3)) 7 4)) 7 5)) 110 6 ((px_up (px_up (px_up (px_up (px_up (px_up s 110 0 (s 7 0)) 110 1 ((px_up s 110 0 (s 7 0)) 7 1)) 110 2 ((px_up (px_up s 110 0 (s 7 0)) 110 1 ((px_up s 110 0 (s 7 0)) 7 1)) 7 2)) 110 3 ((px_up (px_up (px_up s 110 0 (s 7 0)) 110 1 ((px_up s 110 0 (s 7 0)) 7 1)) 110 2 ((px_up (px_up s 110 0 (s 7 0)) 110 1 ((px_up s 110 0 (s 7 0)) 7 1)) 7 2)) 7 3)) 110 4 ((px_up (px_up (px_up (px_up s 110 0 (s 7 0)) 110 1 ((px_up s 110 0 (s 7 0)) 7 1)) 110 2 ((px_up (px_up s 110 0 (s 7 0)) 110 1 ((px_up s 110 0 (s 7 0)) 7 1)) 7 2)) 110 3 ((px_up (px_up (px_up s 110 0 (s 7 0)) 110 1 ((px_up s 110 0 (s 7 0)) 7 1)) 110 2 ((px_up (px_up s 110 0 (s 7 0)) 110 1 ((px_up s 110 0 (s 7 0)) 7 1)) 7 2)) 7 3)) 7 4)) 110 5 ((px_up (px_up (px_up (px_up (px_up s 110 0 (s 7 0)) 110 1 ((px_up s 110 0 (s 7 0)) 7 1)) 110 2 ((px_up (px_up s 110 0 (s 7 0)) 110 1 ((px_up s 110 0 (s 7 0)) 7 1)) 7 2)) 110 3 ((px_up (px_up (px_up s 110 0 (s 7 0)) 110 1 ((px_up s 110 0 (s 7 0)) 7 1)) 110 2 ((px_up (px_up s 110 0 (s 7 0)) 110 1 ((px_up s 110 0 (s 7 0)) 7 1)) 7 2)) 7 3)) 110 4 ((px_up (px_up (px_up (px_up s 110 0 (s 7 0)) 110 1 ((px_up s 110 0 (s 7 0)) 7 1)) 110 2 ((px_up (px_up s 110 0 (s 7 0)) 110 1 ((px_up s 110 0 (s 7 0)) 7 1)) 7 2)) 110 3 ((px_up (px_up (px_up s 110 0 (s 7 0)) 110 1 ((px_up s 110 0 (s 7 0)) 7 1)) 110 2 ((px_up (px_up s 110 0 (s 7 0)) 110 1 ((px_up s 110 0 (s 7 0)) 7 1)) 7 2)) 7 3)) 7 4)) 7 5)) 7 6)) 7 7)) 8 111 0 0 8) 9 112 0 0 8) 10 113 0 0 8) 11 114 0 0 8)) rfl ?_
  cases h
  exact px_D_vret rfl ⟨rfl, rfl⟩

def f_Fate_become_3 (s : px_Z) : Option (px_Z) := if ((px_up (px_up (px_up (px_up (px_up (px_up s 105 0 (s 7 0)) 105 1 ((px_up s 105 0 (s 7 0)) 7 1)) 105 2 ((px_up (px_up s 105 0 (s 7 0)) 105 1 ((px_up s 105 0 (s 7 0)) 7 1)) 7 2)) 105 3 ((px_up (px_up (px_up s 105 0 (s 7 0)) 105 1 ((px_up s 105 0 (s 7 0)) 7 1)) 105 2 ((px_up (px_up s 105 0 (s 7 0)) 105 1 ((px_up s 105 0 (s 7 0)) 7 1)) 7 2)) 7 3)) 105 4 ((px_up (px_up (px_up (px_up s 105 0 (s 7 0)) 105 1 ((px_up s 105 0 (s 7 0)) 7 1)) 105 2 ((px_up (px_up s 105 0 (s 7 0)) 105 1 ((px_up s 105 0 (s 7 0)) 7 1)) 7 2)) 105 3 ((px_up (px_up (px_up s 105 0 (s 7 0)) 105 1 ((px_up s 105 0 (s 7 0)) 7 1)) 105 2 ((px_up (px_up s 105 0 (s 7 0)) 105 1 ((px_up s 105 0 (s 7 0)) 7 1)) 7 2)) 7 3)) 7 4)) 105 5 ((px_up (px_up (px_up (px_up (px_up s 105 0 (s 7 0)) 105 1 ((px_up s 105 0 (s 7 0)) 7 1)) 105 2 ((px_up (px_up s 105 0 (s 7 0)) 105 1 ((px_up s 105 0 (s 7 0)) 7 1)) 7 2)) 105 3 ((px_up (px_up (px_up s 105 0 (s 7 0)) 105 1 ((px_up s 105 0 (s 7 0)) 7 1)) 105 2 ((px_up (px_up s 105 0 (s 7 0)) 105 1 ((px_up s 105 0 (s 7 0)) 7 1)) 7 2)) 7 3)) 105 4 ((px_up (px_up (px_up (px_up s 105 0 (s 7 0)) 105 1 ((px_up s 105 0 (s 7 0)) 7 1)) 105 2 ((px_up (px_up s 105 0 (s 7 0)) 105 1 ((px_up s 105 0 (s 7 0)) 7 1)) 7 2)) 105 3 ((px_up (px_up (px_up s 105 0 (s 7 0)) 105 1 ((px_up s 105 0 (s 7 0)) 7 1)) 105 2 ((px_up (px_up s 105 0 (s 7 0)) 105 1 ((px_up s 105 0 (s 7 0)) 7 1)) 7 2)) 7 3)) 7 4)) 7 5)) 7 6) = 0 ∨ ((px_up (px_up (px_up (px_up (px_up (px_up s 105 0 (s 7 0)) 105 1 ((px_up s 105 0 (s 7 0)) 7 1)) 105 2 ((px_up (px_up s 105 0 (s 7 0)) 105 1 ((px_up s 105 0 (s 7 0)) 7 1)) 7 2)) 105 3 ((px_up (px_up (px_up s 105 0 (s 7 0)) 105 1 ((px_up s 105 0 (s 7 0)) 7 1)) 105 2 ((px_up (px_up s 105 0 (s 7 0)) 105 1 ((px_up s 105 0 (s 7 0)) 7 1)) 7 2)) 7 3)) 105 4 ((px_up (px_up (px_up (px_up s 105 0 (s 7 0)) 105 1 ((px_up s 105 0 (s 7 0)) 7 1)) 105 2 ((px_up (px_up s 105 0 (s 7 0)) 105 1 ((px_up s 105 0 (s 7 0)) 7 1)) 7 2)) 105 3 ((px_up (px_up (px_up s 105 0 (s 7 0)) 105 1 ((px_up s 105 0 (s 7 0)) 7 1)) 105 2 ((px_up (px_up s 105 0 (s 7 0)) 105 1 ((px_up s 105 0 (s 7 0)) 7 1)) 7 2)) 7 3)) 7 4)) 105 5 ((px_up (px_up (px_up (px_up (px_up s 105 0 (s 7 0)) 105 1 ((px_up s 105 0 (s 7 0)) 7 1)) 105 2 ((px_up (px_up s 105 0 (s 7 0)) 105 1 ((px_up s 105 0 (s 7 0)) 7 1)) 7 2)) 105 3 ((px_up (px_up (px_up s 105 0 (s 7 0)) 105 1 ((px_up s 105 0 (s 7 0)) 7 1)) 105 2 ((px_up (px_up s 105 0 (s 7 0)) 105 1 ((px_up s 105 0 (s 7 0)) 7 1)) 7 2)) 7 3)) 105 4 ((px_up (px_up (px_up (px_up s 105 0 (s 7 0)) 105 1 ((px_up s 105 0 (s 7 0)) 7 1)) 105 2 ((px_up (px_up s 105 0 (s 7 0)) 105 1 ((px_up s 105 0 (s 7 0)) 7 1)) 7 2)) 105 3 ((px_up (px_up (px_up s 105 0 (s 7 0)) 105 1 ((px_up s 105 0 (s 7 0)) 7 1)) 105 2 ((px_up (px_up s 105 0 (s 7 0)) 105 1 ((px_up s 105 0 (s 7 0)) 7 1)) 7 2)) 7 3)) 7 4)) 7 5)) 7 6) = 1 then some (px_cp (px_cp (px_cp (px_cp (px_up (px_up (px_up (px_up (px_up (px_up (px_up (px_up s 105 0 (s 7 0)) 105 1 ((px_up s 105 0 (s 7 0)) 7 1)) 105 2 ((px_up (px_up s 105 0 (s 7 0)) 105 1 ((px_up s 105 0 (s 7 0)) 7 1)) 7 2)) 105 3 ((px_up (px_up (px_up s 105 0 (s 7 0)) 105 1 ((px_up s 105 0 (s 7 0)) 7 1)) 105 2 ((px_up (px_up s 105 0 (s 7 0)) 105 1 ((px_up s 105 0 (s 7 0)) 7 1)) 7 2)) 7 3)) 105 4 ((px_up (px_up (px_up (px_up s 105 0 (s 7 0)) 105 1 ((px_up s 105 0 (s 7 0)) 7 1)) 105 2 ((px_up (px_up s 105 0 (s 7 0)) 105 1 ((px_up s 105 0 (s 7 0)) 7 1)) 7 2)) 105 3 ((px_up (px_up (px_up s 105 0 (s 7 0)) 105 1 ((px_up s 105 0 (s 7 0)) 7 1)) 105 2 ((px_up (px_up s 105 0 (s 7 0)) 105 1 ((px_up s 105 0 (s 7 0)) 7 1)) 7 2)) 7 3)) 7 4)) 105 5 ((px_up (px_up (px_up (px_up (px_up s 105 0 (s 7 0)) 105 1 ((px_up s 105 0 (s 7 0)) 7 1)) 105 2 ((px_up (px_up s 105 0 (s 7 0)) 105 1 ((px_up s 105 0 (s 7 0)) 7 1)) 7 2)) 105 3 ((px_up (px_up (px_up s 105 0 (s 7 0)) 105 1 ((px_up s 105 0 (s 7 0)) 7 1)) 105 2 ((px_up (px_up s 105 0 (s 7 0)) 105 1 ((px_up s 105 0 (s 7 0)) 7 1)) 7 2)) 7 3)) 105 4 ((px_up (px_up (px_up (px_up s 105 0 (s 7 0)) 105 1 ((px_up s 105 0 (s 7 0)) 7 1)) 105 2 ((px_up (px_up s 105 0 (s 7 0)) 105 1 ((px_up s 105 0 (s 7 0)) 7 1)) 7 2)) 105 3 ((px_up (px_up (px_up s 105 0 (s 7 0)) 105 1 ((px_up s 105 0 (s 7 0)) 7 1)) 105 2 ((px_up (px_up s 105 0 (s 7 0)) 105 1 ((px_up s 105 0 (s 7 0)) 7 1)) 7 2)) 7 3)) 7 4)) 7 5)) 105 6 ((px_up (px_up (px_up (px_up (px_up (px_up s 105 0 (s 7 0)) 105 1 ((px_up s 105 0 (s 7 0)) 7 1)) 105 2 ((px_up (px_up s 105 0 (s 7 0)) 105 1 ((px_up s 105 0 (s 7 0)) 7 1)) 7 2)) 105 3 ((px_up (px_up (px_up s 105 0 (s 7 0)) 105 1 ((px_up s 105 0 (s 7 0)) 7 1)) 105 2 ((px_up (px_up s 105 0 (s 7 0)) 105 1 ((px_up s 105 0 (s 7 0)) 7 1)) 7 2)) 7 3)) 105 4 ((px_up (px_up (px_up (px_up s 105 0 (s 7 0)) 105 1 ((px_up s 105 0 (s 7 0)) 7 1)) 105 2 ((px_up (px_up s 105 0 (s 7 0)) 105 1 ((px_up s 105 0 (s 7 0)) 7 1)) 7 2)) 105 3 ((px_up (px_up (px_up s 105 0 (s 7 0)) 105 1 ((px_up s 105 0 (s 7 0)) 7 1)) 105 2 ((px_up (px_up s 105 0 (s 7 0)) 105 1 ((px_up s 105 0 (s 7 0)) 7 1)) 7 2)) 7 3)) 7 4)) 105 5 ((px_up (px_up (px_up (px_up (px_up s 105 0 (s 7 0)) 105 1 ((px_up s 105 0 (s 7 0)) 7 1)) 105 2 ((px_up (px_up s 105 0 (s 7 0)) 105 1 ((px_up s 105 0 (s 7 0)) 7 1)) 7 2)) 105 3 ((px_up (px_up (px_up s 105 0 (s 7 0)) 105 1 ((px_up s 105 0 (s 7 0)) 7 1)) 105 2 ((px_up (px_up s 105 0 (s 7 0)) 105 1 ((px_up s 105 0 (s 7 0)) 7 1)) 7 2)) 7 3)) 105 4 ((px_up (px_up (px_up (px_up s 105 0 (s 7 0)) 105 1 ((px_up s 105 0 (s 7 0)) 7 1)) 105 2 ((px_up (px_up s 105 0 (s 7 0)) 105 1 ((px_up s 105 0 (s 7 0)) 7 1)) 7 2)) 105 3 ((px_up (px_up (px_up s 105 0 (s 7 0)) 105 1 ((px_up s 105 0 (s 7 0)) 7 1)) 105 2 ((px_up (px_up s 105 0 (s 7 0)) 105 1 ((px_up s 105 0 (s 7 0)) 7 1)) 7 2)) 7 3)) 7 4)) 7 5)) 7 6)) 105 7 ((px_up (px_up (px_up (px_up (px_up (px_up (px_up s 105 0 (s 7 0)) 105 1 ((px_up s 105 0 (s 7 0)) 7 1)) 105 2 ((px_up (px_up s 105 0 (s 7 0)) 105 1 ((px_up s 105 0 (s 7 0)) 7 1)) 7 2)) 105 3 ((px_up (px_up (px_up s 105 0 (s 7 0)) 105 1 ((px_up s 105 0 (s 7 0)) 7 1)) 105 2 ((px_up (px_up s 105 0 (s 7 0)) 105 1 ((px_up s 105 0 (s 7 0)) 7 1)) 7 2)) 7 3)) 105 4 ((px_up (px_up (px_up (px_up s 105 0 (s 7 0)) 105 1 ((px_up s 105 0 (s 7 0)) 7 1)) 105 2 ((px_up (px_up s 105 0 (s 7 0)) 105 1 ((px_up s 105 0 (s 7 0)) 7 1)) 7 2)) 105 3 ((px_up (px_up (px_up s 105 0 (s 7 0)) 105 1 ((px_up s 105 0 (s 7 0)) 7 1)) 105 2 ((px_up (px_up s 105 0 (s 7 0)) 105 1 ((px_up s 105 0 (s 7 0)) 7 1)) 7 2)) 7 3)) 7 4)) 105 5 ((px_up (px_up (px_up (px_up (px_up s 105 0 (s 7 0)) 105 1 ((px_up s 105 0 (s 7 0)) 7 1)) 105 2 ((px_up (px_up s 105 0 (s 7 0)) 105 1 ((px_up s 105 0 (s 7 0)) 7 1)) 7 2)) 105 3 ((px_up (px_up (px_up s 105 0 (s 7 0)) 105 1 ((px_up s 105 0 (s 7 0)) 7 1)) 105 2 ((px_up (px_up s 105 0 (s 7 0)) 105 1 ((px_up s 105 0 (s 7 0)) 7 1)) 7 2)) 7 3)) 105 4 ((px_up (px_up (px_up (px_up s 105 0 (s 7 0)) 105 1 ((px_up s 105 0 (s 7 0)) 7 1)) 105 2 ((px_up (px_up s 105 0 (s 7 0)) 105 1 ((px_up s 105 0 (s 7 0)) 7 1)) 7 2)) 105 3 ((px_up (px_up (px_up s 105 0 (s 7 0)) 105 1 ((px_up s 105 0 (s 7 0)) 7 1)) 105 2 ((px_up (px_up s 105 0 (s 7 0)) 105 1 ((px_up s 105 0 (s 7 0)) 7 1)) 7 2)) 7 3)) 7 4)) 7 5)) 105 6 ((px_up (px_up (px_up (px_up (px_up (px_up s 105 0 (s 7 0)) 105 1 ((px_up s 105 0 (s 7 0)) 7 1)) 105 2 ((px_up (px_up s 105 0 (s 7 0)) 105 1 ((px_up s 105 0 (s 7 0)) 7 1)) 7 2)) 105 3 ((px_up (px_up (px_up s 105 0 (s 7 0)) 105 1 ((px_up s 105 0 (s 7 0)) 7 1)) 105 2 ((px_up (px_up s 105 0 (s 7 0)) 105 1 ((px_up s 105 0 (s 7 0)) 7 1)) 7 2)) 7 3)) 105 4 ((px_up (px_up (px_up (px_up s 105 0 (s 7 0)) 105 1 ((px_up s 105 0 (s 7 0)) 7 1)) 105 2 ((px_up (px_up s 105 0 (s 7 0)) 105 1 ((px_up s 105 0 (s 7 0)) 7 1)) 7 2)) 105 3 ((px_up (px_up (px_up s 105 0 (s 7 0)) 105 1 ((px_up s 105 0 (s 7 0)) 7 1)) 105 2 ((px_up (px_up s 105 0 (s 7 0)) 105 1 ((px_up s 105 0 (s 7 0)) 7 1)) 7 2)) 7 3)) 7 4)) 105 5 ((px_up (px_up (px_up (px_up (px_up s 105 0 (s 7 0)) 105 1 ((px_up s 105 0 (s 7 0)) 7 1)) 105 2 ((px_up (px_up s 105 0 (s 7 0)) 105 1 ((px_up s 105 0 (s 7 0)) 7 1)) 7 2)) 105 3 ((px_up (px_up (px_up s 105 0 (s 7 0)) 105 1 ((px_up s 105 0 (s 7 0)) 7 1)) 105 2 ((px_up (px_up s 105 0 (s 7 0)) 105 1 ((px_up s 105 0 (s 7 0)) 7 1)) 7 2)) 7 3)) 105 4 ((px_up (px_up (px_up (px_up s 105 0 (s 7 0)) 105 1 ((px_up s 105 0 (s 7 0)) 7 1)) 105 2 ((px_up (px_up s 105 0 (s 7 0)) 105 1 ((px_up s 105 0 (s 7 0)) 7 1)) 7 2)) 105 3 ((px_up (px_up (px_up s 105 0 (s 7 0)) 105 1 ((px_up s 105 0 (s 7 0)) 7 1)) 105 2 ((px_up (px_up s 105 0 (s 7 0)) 105 1 ((px_up s 105 0 (s 7 0)) 7 1)) 7 2)) 7 3)) 7 4)) 7 5)) 7 6)) 7 7)) 8 106 0 0 8) 9 107 0 0 8) 10 108 0 0 8) 11 109 0 0 8) else none
set_option maxHeartbeats 4000000 in
set_option maxRecDepth 100000 in
theorem c_Fate_become_3 {sc : List Int} {d : Nat} {s : px_Z} {out : px_Z} (h : f_Fate_become_3 s  = some out) : px_D sc (d + 0) 1 0 [(0, .inr (.inr 105)), (1, .inr (.inr 7))] [] (px_G1, s) (px_Qv out) := by
  unfold f_Fate_become_3 at h
  refine px_D_st 27 (ip1 := 27) (ls1 := [(0, .inr (.inr 105)), (1, .inr (.inr 7))]) (st1 := [.inl ((px_up (px_up (px_up (px_up (px_up (px_up s 105 0 (s 7 0)) 105 1 ((px_up s 105 0 (s 7 0)) 7 1)) 105 2 ((px_up (px_up s 105 0 (s 7 0)) 105 1 ((px_up s 105 0 (s 7 0)) 7 1)) 7 2)) 105 3 ((px_up (px_up (px_up s 105 0 (s 7 0)) 105 1 ((px_up s 105 0 (s 7 0)) 7 1)) 105 2 ((px_up (px_up s 105 0 (s 7 0)) 105 1 ((px_up s 105 0 (s 7 0)) 7 1)) 7 2)) 7 3)) 105 4 ((px_up (px_up (px_up (px_up s 105 0 (s 7 0)) 105 1 ((px_up s 105 0 (s 7 0)) 7 1)) 105 2 ((px_up (px_up s 105 0 (s 7 0)) 105 1 ((px_up s 105 0 (s 7 0)) 7 1)) 7 2)) 105 3 ((px_up (px_up (px_up s 105 0 (s 7 0)) 105 1 ((px_up s 105 0 (s 7 0)) 7 1)) 105 2 ((px_up (px_up s 105 0 (s 7 0)) 105 1 ((px_up s 105 0 (s 7 0)) 7 1)) 7 2)) 7 3)) 7 4)) 105 5 ((px_up (px_up (px_up (px_up (px_up s 105 0 (s 7 0)) 105 1 ((px_up s 105 0 (s 7 0)) 7 1)) 105 2 ((px_up (px_up s 105 0 (s 7 0)) 105 1 ((px_up s 105 0 (s 7 0)) 7 1)) 7 2)) 105 3 ((px_up (px_up (px_up s 105 0 (s 7 0)) 105 1 ((px_up s 105 0 (s 7 0)) 7 1)) 105 2 ((px_up (px_up s 105 0 (s 7 0)) 105 1 ((px_up s 105 0 (s 7 0)) 7 1)) 7 2)) 7 3)) 105 4 ((px_up (px_up (px_up (px_up s 105 0 (s 7 0)) 105 1 ((px_up s 105 0 (s 7 0)) 7 1)) 105 2 ((px_up (px_up s 105 0 (s 7 0)) 105 1 ((px_up s 105 0 (s 7 0)) 7 1)) 7 2)) 105 3 ((px_up (px_up (px_up s 105 0 (s 7 0)) 105 1 ((px_up s 105 0 (s 7 0)) 7 1)) 105 2 ((px_up (px_up s 105 0 (s 7 0)) 105 1 ((px_up s 105 0 (s 7 0)) 7 1)) 7 2)) 7 3)) 7 4)) 7 5)) 7 6), .inr (.inr 105)]) (h1 := (px_G1, px_up (px_up (px_up (px_up (px_up (px_up s 105 0 (s 7 0)) 105 1 ((px_up s 105 0 (s 7 0)) 7 1)) 105 2 ((px_up (px_up s 105 0 (s 7 0)) 105 1 ((px_up s 105 0 (s 7 0)) 7 1)) 7 2)) 105 3 ((px_up (px_up (px_up s 105 0 (s 7 0)) 105 1 ((px_up s 105 0 (s 7 0)) 7 1)) 105 2 ((px_up (px_up s 105 0 (s 7 0)) 105 1 ((px_up s 105 0 (s 7 0)) 7 1)) 7 2)) 7 3)) 105 4 ((px_up (px_up (px_up (px_up s 105 0 (s 7 0)) 105 1 ((px_up s 105 0 (s 7 0)) 7 1)) 105 2 ((px_up (px_up s 105 0 (s 7 0)) 105 1 ((px_up s 105 0 (s 7 0)) 7 1)) 7 2)) 105 3 ((px_up (px_up (px_up s 105 0 (s 7 0)) 105 1 ((px_up s 105 0 (s 7 0)) 7 1)) 105 2 ((px_up (px_up s 105 0 (s 7 0)) 105 1 ((px_up s 105 0 (s 7 0)) 7 1)) 7 2)) 7 3)) 7 4)) 105 5 ((px_up (px_up (px_up (px_up (px_up s 105 0 (s 7 0)) 105 1 ((px_up s 105 0 (s 7 0)) 7 1)) 105 2 ((px_up (px_up s 105 0 (s 7 0)) 105 1 ((px_up s 105 0 (s 7 0)) 7 1)) 7 2)) 105 3 ((px_up (px_up (px_up s 105 0 (s 7 0)) 105 1 ((px_up s 105 0 (s 7 0)) 7 1)) 105 2 ((px_up (px_up s 105 0 (s 7 0)) 105 1 ((px_up s 105 0 (s 7 0)) 7 1)) 7 2)) 7 3)) 105 4 ((px_up (px_up (px_up (px_up s 105 0 (s 7 0)) 105 1 ((px_up s 105 0 (s 7 0)) 7 1)) 105 2 ((px_up (px_up s 105 0 (s 7 0)) 105 1 ((px_up s 105 0 (s 7 0)) 7 1)) 7 2)) 105 3 ((px_up (px_up (px_up s 105 0 (s 7 0)) 105 1 ((px_up s 105 0 (s 7 0)) 7 1)) 105 2 ((px_up (px_up s 105 0 (s 7 0)) 105 1 ((px_up s 105 0 (s 7 0)) 7 1)) 7 2)) 7 3)) 7 4)) 7 5))) rfl ?_
  by_cases hc1 : ((px_up (px_up (px_up (px_up (px_up (px_up s 105 0 (s 7 0)) 105 1 ((px_up s 105 0 (s 7 0)) 7 1)) 105 2 ((px_up (px_up s 105 0 (s 7 0)) 105 1 ((px_up s 105 0 (s 7 0)) 7 1)) 7 2)) 105 3 ((px_up (px_up (px_up s 105 0 (s 7 0)) 105 1 ((px_up s 105 0 (s 7 0)) 7 1)) 105 2 ((px_up (px_up s 105 0 (s 7 0)) 105 1 ((px_up s 105 0 (s 7 0)) 7 1)) 7 2)) 7 3)) 105 4 ((px_up (px_up (px_up (px_up s 105 0 (s 7 0)) 105 1 ((px_up s 105 0 (s 7 0)) 7 1)) 105 2 ((px_up (px_up s 105 0 (s 7 0)) 105 1 ((px_up s 105 0 (s 7 0)) 7 1)) 7 2)) 105 3 ((px_up (px_up (px_up s 105 0 (s 7 0)) 105 1 ((px_up s 105 0 (s 7 0)) 7 1)) 105 2 ((px_up (px_up s 105 0 (s 7 0)) 105 1 ((px_up s 105 0 (s 7 0)) 7 1)) 7 2)) 7 3)) 7 4)) 105 5 ((px_up (px_up (px_up (px_up (px_up s 105 0 (s 7 0)) 105 1 ((px_up s 105 0 (s 7 0)) 7 1)) 105 2 ((px_up (px_up s 105 0 (s 7 0)) 105 1 ((px_up s 105 0 (s 7 0)) 7 1)) 7 2)) 105 3 ((px_up (px_up (px_up s 105 0 (s 7 0)) 105 1 ((px_up s 105 0 (s 7 0)) 7 1)) 105 2 ((px_up (px_up s 105 0 (s 7 0)) 105 1 ((px_up s 105 0 (s 7 0)) 7 1)) 7 2)) 7 3)) 105 4 ((px_up (px_up (px_up (px_up s 105 0 (s 7 0)) 105 1 ((px_up s 105 0 (s 7 0)) 7 1)) 105 2 ((px_up (px_up s 105 0 (s 7 0)) 105 1 ((px_up s 105 0 (s 7 0)) 7 1)) 7 2)) 105 3 ((px_up (px_up (px_up s 105 0 (s 7 0)) 105 1 ((px_up s 105 0 (s 7 0)) 7 1)) 105 2 ((px_up (px_up s 105 0 (s 7 0)) 105 1 ((px_up s 105 0 (s 7 0)) 7 1)) 7 2)) 7 3)) 7 4)) 7 5)) 7 6) = 0 ∨ ((px_up (px_up (px_up (px_up (px_up (px_up s 105 0 (s 7 0)) 105 1 ((px_up s 105 0 (s 7 0)) 7 1)) 105 2 ((px_up (px_up s 105 0 (s 7 0)) 105 1 ((px_up s 105 0 (s 7 0)) 7 1)) 7 2)) 105 3 ((px_up (px_up (px_up s 105 0 (s 7 0)) 105 1 ((px_up s 105 0 (s 7 0)) 7 1)) 105 2 ((px_up (px_up s 105 0 (s 7 0)) 105 1 ((px_up s 105 0 (s 7 0)) 7 1)) 7 2)) 7 3)) 105 4 ((px_up (px_up (px_up (px_up s 105 0 (s 7 0)) 105 1 ((px_up s 105 0 (s 7 0)) 7 1)) 105 2 ((px_up (px_up s 105 0 (s 7 0)) 105 1 ((px_up s 105 0 (s 7 0)) 7 1)) 7 2)) 105 3 ((px_up (px_up (px_up s 105 0 (s 7 0)) 105 1 ((px_up s 105 0 (s 7 0)) 7 1)) 105 2 ((px_up (px_up s 105 0 (s 7 0)) 105 1 ((px_up s 105 0 (s 7 0)) 7 1)) 7 2)) 7 3)) 7 4)) 105 5 ((px_up (px_up (px_up (px_up (px_up s 105 0 (s 7 0)) 105 1 ((px_up s 105 0 (s 7 0)) 7 1)) 105 2 ((px_up (px_up s 105 0 (s 7 0)) 105 1 ((px_up s 105 0 (s 7 0)) 7 1)) 7 2)) 105 3 ((px_up (px_up (px_up s 105 0 (s 7 0)) 105 1 ((px_up s 105 0 (s 7 0)) 7 1)) 105 2 ((px_up (px_up s 105 0 (s 7 0)) 105 1 ((px_up s 105 0 (s 7 0)) 7 1)) 7 2)) 7 3)) 105 4 ((px_up (px_up (px_up (px_up s 105 0 (s 7 0)) 105 1 ((px_up s 105 0 (s 7 0)) 7 1)) 105 2 ((px_up (px_up s 105 0 (s 7 0)) 105 1 ((px_up s 105 0 (s 7 0)) 7 1)) 7 2)) 105 3 ((px_up (px_up (px_up s 105 0 (s 7 0)) 105 1 ((px_up s 105 0 (s 7 0)) 7 1)) 105 2 ((px_up (px_up s 105 0 (s 7 0)) 105 1 ((px_up s 105 0 (s 7 0)) 7 1)) 7 2)) 7 3)) 7 4)) 7 5)) 7 6) = 1
  case neg => rw [if_neg hc1] at h; cases h
  rw [if_pos hc1] at h
  refine px_D_putz (k := 100) rfl rfl rfl rfl hc1 ?_
  refine px_D_st 36 (ip1 := 64) (ls1 := [(0, .inr (.inr 105)), (1, .inr (.inr 7))]) (st1 := []) (h1 := (px_G1, px_cp (px_cp (px_cp (px_cp (px_up (px_up (px_up (px_up (px_up (px_up (px_up (px_up s 105 0 (s 7 0)) 105 1 ((px_up s 105 0 (s 7 0)) 7 1)) 105 2 ((px_up (px_up s 105 0 (s 7 0)) 105 1 ((px_up s 105 0 (s 7 0)) 7 1)) 7 2)) 105 3 ((px_up (px_up (px_up s 105 0 (s 7 0)) 105 1 ((px_up s 105 0 (s 7 0)) 7 1)) 105 2 ((px_up (px_up s 105 0 (s 7 0)) 105 1 ((px_up s 105 0 (s 7 0)) 7 1)) 7 2)) 7 3)) 105 4 ((px_up (px_up (px_up (px_up s 105 0 (s 7 0)) 105 1 ((px_up s 105 0 (s 7 0)) 7 1)) 105 2 ((px_up (px_up s 105 0 (s 7 0)) 105 1 ((px_up s 105 0 (s 7 0)) 7 1)) 7 2)) 105 3 ((px_up (px_up (px_up s 105 0 (s 7 0)) 105 1 ((px_up s 105 0 (s 7 0)) 7 1)) 105 2 ((px_up (px_up s 105 0 (s 7 0)) 105 1 ((px_up s 105 0 (s 7 0)) 7 1)) 7 2)) 7 3)) 7 4)) 105 5 ((px_up (px_up (px_up (px_up (px_up s 105 0 (s 7 0)) 105 1 ((px_up s 105 0 (s 7 0)) 7 1)) 105 2 ((px_up (px_up s 105 0 (s 7 0)) 105 1 ((px_up s 105 0 (s 7 0)) 7 1)) 7 2)) 105 3 ((px_up (px_up (px_up s 105 0 (s 7 0)) 105 1 ((px_up s 105 0 (s 7 0)) 7 1)) 105 2 ((px_up (px_up s 105 0 (s 7 0)) 105 1 ((px_up s 105 0 (s 7 0)) 7 1)) 7 2)) 7 3)) 105 4 ((px_up (px_up (px_up (px_up s 105 0 (s 7 0)) 105 1 ((px_up s 105 0 (s 7 0)) 7 1)) 105 2 ((px_up (px_up s 105 0 (s 7 0)) 105 1 ((px_up s 105 0 (s 7 0)) 7 1)) 7 2)) 105 3 ((px_up (px_up (px_up s 105 0 (s 7 0)) 105 1 ((px_up s 105 0 (s 7 0)) 7 1)) 105 2 ((px_up (px_up s 105 0 (s 7 0)) 105 1 ((px_up s 105 0 (s 7 0)) 7 1)) 7 2)) 7 3)) 7 4)) 7 5)) 105 6 ((px_up (px_up (px_up (px_up (px_up (px_up s 105 0 (s 7 0)) 105 1 ((px_up s 105 0 (s 7 0)) 7 1)) 105 2 ((px_up (px_up s 105 0 (s 7 0)) 105 1 ((px_up s 105 0 (s 7 0)) 7 1)) 7 2)) 105 3 ((px_up (px_up (px_up s 105 0 (s 7 0)) 105 1 ((px_up s 105 0 (s 7 0)) 7 1)) 105 2 ((px_up (px_up s 105 0 (s 7 0)) 105 1 ((px_up s 105 0 (s 7 0)) 7 1)) 7 2)) 7 3)) 105 4 ((px_up (px_up (px_up (px_up s 105 0 (s 7 0)) 105 1 ((px_up s 105 0 (s 7 0)) 7 1)) 105 2 ((px_up (px_up s 105 0 (s 7 0)) 105 1 ((px_up s 105 0 (s 7 0)) 7 1)) 7 2)) 105 3 ((px_up (px_up (px_up s 105 0 (s 7 0)) 105 1 ((px_up s 105 0 (s 7 0)) 7 1)) 105 2 ((px_up (px_up s 105 0 (s 7 0)) 105 1 ((px_up s 105 0 (s 7 0)) 7 1)) 7 2)) 7 3)) 7 4)) 105 5 ((px_up (px_up (px_up (px_up (px_up s 105 0 (s 7 0)) 105 1 ((px_up s 105 0 (s 7 0)) 7 1)) 105 2 ((px_up (px_up s 105 0 (s 7 0)) 105 1 ((px_up s 105 0 (s 7 0)) 7 1)) 7 2)) 105 3 ((px_up (px_up (px_up s 105 0 (s 7 0)) 105 1 ((px_up s 105 0 (s 7 0)) 7 1)) 105 2 ((px_up (px_up s 105 0 (s 7 0)) 105 1 ((px_up s 105 0 (s 7 0)) 7 1)) 7 2)) 7 3)) 105 4 ((px_up (px_up (px_up (px_up s 105 0 (s 7 0)) 105 1 ((px_up s 105 0 (s 7 0)) 7 1)) 105 2 ((px_up (px_up s 105 0 (s 7 0)) 105 1 ((px_up s 105 0 (s 7 0)) 7 1)) 7 2)) 105 3 ((px_up (px_up (px_up s 105 0 (s 7 0)) 105 1 ((px_up s 105 0 (s 7 0)) 7 1)) 105 2 ((px_up (px_up s 105 0 (s 7 0)) 105 1 ((px_up s 105 0 (s 7 0)) 7 1)) 7 2)) 7 3)) 7 4)) 7 5)) 7 6)) 105 7 ((px_up (px_up (px_up (px_up (px_up (px_up (px_up s 105 0 (s 7 0)) 105 1 ((px_up s 105 0 (s 7 0)) 7 1)) 105 2 ((px_up (px_up s 105 0 (s 7 0)) 105 1 ((px_up s 105 0 (s 7 0)) 7 1)) 7 2)) 105 3 ((px_up (px_up (px_up s 105 0 (s 7 0)) 105 1 ((px_up s 105 0 (s 7 0)) 7 1)) 105 2 ((px_up (px_up s 105 0 (s 7 0)) 105 1 ((px_up s 105 0 (s 7 0)) 7 1)) 7 2)) 7 3)) 105 4 ((px_up (px_up (px_up (px_up s 105 0 (s 7 0)) 105 1 ((px_up s 105 0 (s 7 0)) 7 1)) 105 2 ((px_up (px_up s 105 0 (s 7 0)) 105 1 ((px_up s 105 0 (s 7 0)) 7 1)) 7 2)) 105 3 ((px_up (px_up (px_up s 105 0 (s 7 0)) 105 1 ((px_up s 105 0 (s 7 0)) 7 1)) 105 2 ((px_up (px_up s 105 0 (s 7 0)) 105 1 ((px_up s 105 0 (s 7 0)) 7 1)) 7 2)) 7 3)) 7 4)) 105 5 ((px_up (px_up (px_up (px_up (px_up s 105 0 (s 7 0)) 105 1 ((px_up s 105 0 (s 7 0)) 7 1)) 105 2 ((px_up (px_up s 105 0 (s 7 0)) 105 1 ((px_up s 105 0 (s 7 0)) 7 1)) 7 2)) 105 3 ((px_up (px_up (px_up s 105 0 (s 7 0)) 105 1 ((px_up s 105 0 (s 7 0)) 7 1)) 105 2 ((px_up (px_up s 105 0 (s 7 0)) 105 1 ((px_up s 105 0 (s 7 0)) 7 1)) 7 2)) 7 3)) 105 4 ((px_up (px_up (px_up (px_up s 105 0 (s 7 0)) 105 1 ((px_up s 105 0 (s 7 0)) 7 1)) 105 2 ((px_up (px_up s 105 0 (s 7 0)) 105 1 ((px_up s 105 0 (s 7 0)) 7 1)) 7 2)) 105 3 ((px_up (px_up (px_up s 105 0 (s 7 0)) 105 1 ((px_up s 105 0 (s 7 0)) 7 1)) 105 2 ((px_up (px_up s 105 0 (s 7 0)) 105 1 ((px_up s 105 0 (s 7 0)) 7 1)) 7 2)) 7 3)) 7 4)) 7 5)) 105 6 ((px_up (px_up (px_up (px_up (px_up (px_up s 105 0 (s 7 0)) 105 1 ((px_up s 105 0 (s 7 0)) 7 1)) 105 2 ((px_up (px_up s 105 0 (s 7 0)) 105 1 ((px_up s 105 0 (s 7 0)) 7 1)) 7 2)) 105 3 ((px_up (px_up (px_up s 105 0 (s 7 0)) 105 1 ((px_up s 105 0 (s 7 0)) 7 1)) 105 2 ((px_up (px_up s 105 0 (s 7 0)) 105 1 ((px_up s 105 0 (s 7 0)) 7 1)) 7 2)) 7 3)) 105 4 ((px_up (px_up (px_up (px_up s 105 0 (s 7 0)) 105 1 ((px_up s 105 0 (s 7 0)) 7 1)) 105 2 ((px_up (px_up s 105 0 (s 7 0)) 105 1 ((px_up s 105 0 (s 7 0)) 7 1)) 7 2)) 105 3 ((px_up (px_up (px_up s 105 0 (s 7 0)) 105 1 ((px_up s 105 0 (s 7 0)) 7 1)) 105 2 ((px_up (px_up s 105 0 (s 7 0)) 105 1 ((px_up s 105 0 (s 7 0)) 7 1)) 7 2)) 7 3)) 7 4)) 105 5 ((px_up (px_up (px_up (px_up (px_up s 105 0 (s 7 0)) 105 1 ((px_up s 105 0 (s 7 0)) 7 1)) 105 2 ((px_up (px_up s 105 0 (s 7 0)) 105 1 ((px_up s 105 0 (s 7 0)) 7 1)) 7 2)) 105 3 ((px_up (px_up (px_up s 105 0 (s 7 0)) 105 1 ((px_up s 105 0 (s 7 0)) 7 1)) 105 2 ((px_up (px_up s 105 0 (s 7 0)) 105 1 ((px_up s 105 0 (s 7 0)) 7 1)) 7 2)) 7 3)) 105 4 ((px_up (px_up (px_up (px_up s 105 0 (s 7 0)) 105 1 ((px_up s 105 0 (s 7 0)) 7 1)) 105 2 ((px_up (px_up s 105 0 (s 7 0)) 105 1 ((px_up s 105 0 (s 7 0)) 7 1)) 7 2)) 105 3 ((px_up (px_up (px_up s 105 0 (s 7 0)) 105 1 ((px_up s 105 0 (s 7 0)) 7 1)) 105 2 ((px_up (px_up s 105 0 (s 7 0)) 105 1 ((px_up s 105 0 (s 7 0)) 7 1)) 7 2)) 7 3)) 7 4)) 7 5)) 7 6)) 7 7)) 8 106 0 0 8) 9 107 0 0 8) 10 108 0 0 8) 11 109 0 0 8)) rfl ?_
  cases h
  exact px_D_vret rfl ⟨rfl, rfl⟩

def f_Math_min (s : px_Z) (x0 : Int) (x1 : Int) : Int := if (x1) < (x0) then x1 else x0
set_option maxHeartbeats 4000000 in
set_option maxRecDepth 100000 in
theorem c_Math_min {sc : List Int} {d : Nat} {s : px_Z} {x0 : Int} {x1 : Int} {out : Int} (h : f_Math_min s x0 x1 = out) : px_D sc (d + 0) 283 0 [(0, .inl (x0)), (1, .inl (x1))] [] (px_G1, s) (px_Qp s out) := by
  unfold f_Math_min at h
  refine px_D_st 2 (ip1 := 2) (ls1 := [(0, .inl (x0)), (1, .inl (x1))]) (st1 := [.inl (x1), .inl (x0)]) (h1 := (px_G1, s)) rfl ?_
  refine px_D_icmp rfl (fun hc => ?_) (fun hc => ?_)
  · have hc1 : (x1) < (x0) := of_decide_eq_true hc
    rw [if_pos hc1] at h
    refine px_D_st 1 (ip1 := 6) (ls1 := [(0, .inl (x0)), (1, .inl (x1))]) (st1 := [.inl (x1)]) (h1 := (px_G1, s)) rfl ?_
    subst h
    exact px_D_iret rfl rfl ⟨rfl, rfl⟩
  · have hc1 : ¬ ((x1) < (x0)) := of_decide_eq_false hc
    rw [if_neg hc1] at h
    refine px_D_st 2 (ip1 := 6) (ls1 := [(0, .inl (x0)), (1, .inl (x1))]) (st1 := [.inl (x0)]) (h1 := (px_G1, s)) rfl ?_
    subst h
    exact px_D_iret rfl rfl ⟨rfl, rfl⟩

def f_Fate_become_4 (s : px_Z) : Option (px_Z) := if ((px_up (px_up (px_up (px_up (px_up (px_up s 115 0 (s 7 0)) 115 1 ((px_up s 115 0 (s 7 0)) 7 1)) 115 2 ((px_up (px_up s 115 0 (s 7 0)) 115 1 ((px_up s 115 0 (s 7 0)) 7 1)) 7 2)) 115 3 ((px_up (px_up (px_up s 115 0 (s 7 0)) 115 1 ((px_up s 115 0 (s 7 0)) 7 1)) 115 2 ((px_up (px_up s 115 0 (s 7 0)) 115 1 ((px_up s 115 0 (s 7 0)) 7 1)) 7 2)) 7 3)) 115 4 ((px_up (px_up (px_up (px_up s 115 0 (s 7 0)) 115 1 ((px_up s 115 0 (s 7 0)) 7 1)) 115 2 ((px_up (px_up s 115 0 (s 7 0)) 115 1 ((px_up s 115 0 (s 7 0)) 7 1)) 7 2)) 115 3 ((px_up (px_up (px_up s 115 0 (s 7 0)) 115 1 ((px_up s 115 0 (s 7 0)) 7 1)) 115 2 ((px_up (px_up s 115 0 (s 7 0)) 115 1 ((px_up s 115 0 (s 7 0)) 7 1)) 7 2)) 7 3)) 7 4)) 115 5 ((px_up (px_up (px_up (px_up (px_up s 115 0 (s 7 0)) 115 1 ((px_up s 115 0 (s 7 0)) 7 1)) 115 2 ((px_up (px_up s 115 0 (s 7 0)) 115 1 ((px_up s 115 0 (s 7 0)) 7 1)) 7 2)) 115 3 ((px_up (px_up (px_up s 115 0 (s 7 0)) 115 1 ((px_up s 115 0 (s 7 0)) 7 1)) 115 2 ((px_up (px_up s 115 0 (s 7 0)) 115 1 ((px_up s 115 0 (s 7 0)) 7 1)) 7 2)) 7 3)) 115 4 ((px_up (px_up (px_up (px_up s 115 0 (s 7 0)) 115 1 ((px_up s 115 0 (s 7 0)) 7 1)) 115 2 ((px_up (px_up s 115 0 (s 7 0)) 115 1 ((px_up s 115 0 (s 7 0)) 7 1)) 7 2)) 115 3 ((px_up (px_up (px_up s 115 0 (s 7 0)) 115 1 ((px_up s 115 0 (s 7 0)) 7 1)) 115 2 ((px_up (px_up s 115 0 (s 7 0)) 115 1 ((px_up s 115 0 (s 7 0)) 7 1)) 7 2)) 7 3)) 7 4)) 7 5)) 7 6) = 0 ∨ ((px_up (px_up (px_up (px_up (px_up (px_up s 115 0 (s 7 0)) 115 1 ((px_up s 115 0 (s 7 0)) 7 1)) 115 2 ((px_up (px_up s 115 0 (s 7 0)) 115 1 ((px_up s 115 0 (s 7 0)) 7 1)) 7 2)) 115 3 ((px_up (px_up (px_up s 115 0 (s 7 0)) 115 1 ((px_up s 115 0 (s 7 0)) 7 1)) 115 2 ((px_up (px_up s 115 0 (s 7 0)) 115 1 ((px_up s 115 0 (s 7 0)) 7 1)) 7 2)) 7 3)) 115 4 ((px_up (px_up (px_up (px_up s 115 0 (s 7 0)) 115 1 ((px_up s 115 0 (s 7 0)) 7 1)) 115 2 ((px_up (px_up s 115 0 (s 7 0)) 115 1 ((px_up s 115 0 (s 7 0)) 7 1)) 7 2)) 115 3 ((px_up (px_up (px_up s 115 0 (s 7 0)) 115 1 ((px_up s 115 0 (s 7 0)) 7 1)) 115 2 ((px_up (px_up s 115 0 (s 7 0)) 115 1 ((px_up s 115 0 (s 7 0)) 7 1)) 7 2)) 7 3)) 7 4)) 115 5 ((px_up (px_up (px_up (px_up (px_up s 115 0 (s 7 0)) 115 1 ((px_up s 115 0 (s 7 0)) 7 1)) 115 2 ((px_up (px_up s 115 0 (s 7 0)) 115 1 ((px_up s 115 0 (s 7 0)) 7 1)) 7 2)) 115 3 ((px_up (px_up (px_up s 115 0 (s 7 0)) 115 1 ((px_up s 115 0 (s 7 0)) 7 1)) 115 2 ((px_up (px_up s 115 0 (s 7 0)) 115 1 ((px_up s 115 0 (s 7 0)) 7 1)) 7 2)) 7 3)) 115 4 ((px_up (px_up (px_up (px_up s 115 0 (s 7 0)) 115 1 ((px_up s 115 0 (s 7 0)) 7 1)) 115 2 ((px_up (px_up s 115 0 (s 7 0)) 115 1 ((px_up s 115 0 (s 7 0)) 7 1)) 7 2)) 115 3 ((px_up (px_up (px_up s 115 0 (s 7 0)) 115 1 ((px_up s 115 0 (s 7 0)) 7 1)) 115 2 ((px_up (px_up s 115 0 (s 7 0)) 115 1 ((px_up s 115 0 (s 7 0)) 7 1)) 7 2)) 7 3)) 7 4)) 7 5)) 7 6) = 1 then some (px_cp (px_cp (px_cp (px_cp (px_up (px_up (px_up (px_up (px_up (px_up (px_up (px_up s 115 0 (s 7 0)) 115 1 ((px_up s 115 0 (s 7 0)) 7 1)) 115 2 ((px_up (px_up s 115 0 (s 7 0)) 115 1 ((px_up s 115 0 (s 7 0)) 7 1)) 7 2)) 115 3 ((px_up (px_up (px_up s 115 0 (s 7 0)) 115 1 ((px_up s 115 0 (s 7 0)) 7 1)) 115 2 ((px_up (px_up s 115 0 (s 7 0)) 115 1 ((px_up s 115 0 (s 7 0)) 7 1)) 7 2)) 7 3)) 115 4 ((px_up (px_up (px_up (px_up s 115 0 (s 7 0)) 115 1 ((px_up s 115 0 (s 7 0)) 7 1)) 115 2 ((px_up (px_up s 115 0 (s 7 0)) 115 1 ((px_up s 115 0 (s 7 0)) 7 1)) 7 2)) 115 3 ((px_up (px_up (px_up s 115 0 (s 7 0)) 115 1 ((px_up s 115 0 (s 7 0)) 7 1)) 115 2 ((px_up (px_up s 115 0 (s 7 0)) 115 1 ((px_up s 115 0 (s 7 0)) 7 1)) 7 2)) 7 3)) 7 4)) 115 5 ((px_up (px_up (px_up (px_up (px_up s 115 0 (s 7 0)) 115 1 ((px_up s 115 0 (s 7 0)) 7 1)) 115 2 ((px_up (px_up s 115 0 (s 7 0)) 115 1 ((px_up s 115 0 (s 7 0)) 7 1)) 7 2)) 115 3 ((px_up (px_up (px_up s 115 0 (s 7 0)) 115 1 ((px_up s 115 0 (s 7 0)) 7 1)) 115 2 ((px_up (px_up s 115 0 (s 7 0)) 115 1 ((px_up s 115 0 (s 7 0)) 7 1)) 7 2)) 7 3)) 115 4 ((px_up (px_up (px_up (px_up s 115 0 (s 7 0)) 115 1 ((px_up s 115 0 (s 7 0)) 7 1)) 115 2 ((px_up (px_up s 115 0 (s 7 0)) 115 1 ((px_up s 115 0 (s 7 0)) 7 1)) 7 2)) 115 3 ((px_up (px_up (px_up s 115 0 (s 7 0)) 115 1 ((px_up s 115 0 (s 7 0)) 7 1)) 115 2 ((px_up (px_up s 115 0 (s 7 0)) 115 1 ((px_up s 115 0 (s 7 0)) 7 1)) 7 2)) 7 3)) 7 4)) 7 5)) 115 6 ((px_up (px_up (px_up (px_up (px_up (px_up s 115 0 (s 7 0)) 115 1 ((px_up s 115 0 (s 7 0)) 7 1)) 115 2 ((px_up (px_up s 115 0 (s 7 0)) 115 1 ((px_up s 115 0 (s 7 0)) 7 1)) 7 2)) 115 3 ((px_up (px_up (px_up s 115 0 (s 7 0)) 115 1 ((px_up s 115 0 (s 7 0)) 7 1)) 115 2 ((px_up (px_up s 115 0 (s 7 0)) 115 1 ((px_up s 115 0 (s 7 0)) 7 1)) 7 2)) 7 3)) 115 4 ((px_up (px_up (px_up (px_up s 115 0 (s 7 0)) 115 1 ((px_up s 115 0 (s 7 0)) 7 1)) 115 2 ((px_up (px_up s 115 0 (s 7 0)) 115 1 ((px_up s 115 0 (s 7 0)) 7 1)) 7 2)) 115 3 ((px_up (px_up (px_up s 115 0 (s 7 0)) 115 1 ((px_up s 115 0 (s 7 0)) 7 1)) 115 2 ((px_up (px_up s 115 0 (s 7 0)) 115 1 ((px_up s 115 0 (s 7 0)) 7 1)) 7 2)) 7 3)) 7 4)) 115 5 ((px_up (px_up (px_up (px_up (px_up s 115 0 (s 7 0)) 115 1 ((px_up s 115 0 (s 7 0)) 7 1)) 115 2 ((px_up (px_up s 115 0 (s 7 0)) 115 1 ((px_up s 115 0 (s 7 0)) 7 1)) 7 2)) 115 3 ((px_up (px_up (px_up s 115 0 (s 7 0)) 115 1 ((px_up s 115 0 (s 7 0)) 7 1)) 115 2 ((px_up (px_up s 115 0 (s 7 0)) 115 1 ((px_up s 115 0 (s 7 0)) 7 1)) 7 2)) 7 3)) 115 4 ((px_up (px_up (px_up (px_up s 115 0 (s 7 0)) 115 1 ((px_up s 115 0 (s 7 0)) 7 1)) 115 2 ((px_up (px_up s 115 0 (s 7 0)) 115 1 ((px_up s 115 0 (s 7 0)) 7 1)) 7 2)) 115 3 ((px_up (px_up (px_up s 115 0 (s 7 0)) 115 1 ((px_up s 115 0 (s 7 0)) 7 1)) 115 2 ((px_up (px_up s 115 0 (s 7 0)) 115 1 ((px_up s 115 0 (s 7 0)) 7 1)) 7 2)) 7 3)) 7 4)) 7 5)) 7 6)) 115 7 ((px_up (px_up (px_up (px_up (px_up (px_up (px_up s 115 0 (s 7 0)) 115 1 ((px_up s 115 0 (s 7 0)) 7 1)) 115 2 ((px_up (px_up s 115 0 (s 7 0)) 115 1 ((px_up s 115 0 (s 7 0)) 7 1)) 7 2)) 115 3 ((px_up (px_up (px_up s 115 0 (s 7 0)) 115 1 ((px_up s 115 0 (s 7 0)) 7 1)) 115 2 ((px_up (px_up s 115 0 (s 7 0)) 115 1 ((px_up s 115 0 (s 7 0)) 7 1)) 7 2)) 7 3)) 115 4 ((px_up (px_up (px_up (px_up s 115 0 (s 7 0)) 115 1 ((px_up s 115 0 (s 7 0)) 7 1)) 115 2 ((px_up (px_up s 115 0 (s 7 0)) 115 1 ((px_up s 115 0 (s 7 0)) 7 1)) 7 2)) 115 3 ((px_up (px_up (px_up s 115 0 (s 7 0)) 115 1 ((px_up s 115 0 (s 7 0)) 7 1)) 115 2 ((px_up (px_up s 115 0 (s 7 0)) 115 1 ((px_up s 115 0 (s 7 0)) 7 1)) 7 2)) 7 3)) 7 4)) 115 5 ((px_up (px_up (px_up (px_up (px_up s 115 0 (s 7 0)) 115 1 ((px_up s 115 0 (s 7 0)) 7 1)) 115 2 ((px_up (px_up s 115 0 (s 7 0)) 115 1 ((px_up s 115 0 (s 7 0)) 7 1)) 7 2)) 115 3 ((px_up (px_up (px_up s 115 0 (s 7 0)) 115 1 ((px_up s 115 0 (s 7 0)) 7 1)) 115 2 ((px_up (px_up s 115 0 (s 7 0)) 115 1 ((px_up s 115 0 (s 7 0)) 7 1)) 7 2)) 7 3)) 115 4 ((px_up (px_up (px_up (px_up s 115 0 (s 7 0)) 115 1 ((px_up s 115 0 (s 7 0)) 7 1)) 115 2 ((px_up (px_up s 115 0 (s 7 0)) 115 1 ((px_up s 115 0 (s 7 0)) 7 1)) 7 2)) 115 3 ((px_up (px_up (px_up s 115 0 (s 7 0)) 115 1 ((px_up s 115 0 (s 7 0)) 7 1)) 115 2 ((px_up (px_up s 115 0 (s 7 0)) 115 1 ((px_up s 115 0 (s 7 0)) 7 1)) 7 2)) 7 3)) 7 4)) 7 5)) 115 6 ((px_up (px_up (px_up (px_up (px_up (px_up s 115 0 (s 7 0)) 115 1 ((px_up s 115 0 (s 7 0)) 7 1)) 115 2 ((px_up (px_up s 115 0 (s 7 0)) 115 1 ((px_up s 115 0 (s 7 0)) 7 1)) 7 2)) 115 3 ((px_up (px_up (px_up s 115 0 (s 7 0)) 115 1 ((px_up s 115 0 (s 7 0)) 7 1)) 115 2 ((px_up (px_up s 115 0 (s 7 0)) 115 1 ((px_up s 115 0 (s 7 0)) 7 1)) 7 2)) 7 3)) 115 4 ((px_up (px_up (px_up (px_up s 115 0 (s 7 0)) 115 1 ((px_up s 115 0 (s 7 0)) 7 1)) 115 2 ((px_up (px_up s 115 0 (s 7 0)) 115 1 ((px_up s 115 0 (s 7 0)) 7 1)) 7 2)) 115 3 ((px_up (px_up (px_up s 115 0 (s 7 0)) 115 1 ((px_up s 115 0 (s 7 0)) 7 1)) 115 2 ((px_up (px_up s 115 0 (s 7 0)) 115 1 ((px_up s 115 0 (s 7 0)) 7 1)) 7 2)) 7 3)) 7 4)) 115 5 ((px_up (px_up (px_up (px_up (px_up s 115 0 (s 7 0)) 115 1 ((px_up s 115 0 (s 7 0)) 7 1)) 115 2 ((px_up (px_up s 115 0 (s 7 0)) 115 1 ((px_up s 115 0 (s 7 0)) 7 1)) 7 2)) 115 3 ((px_up (px_up (px_up s 115 0 (s 7 0)) 115 1 ((px_up s 115 0 (s 7 0)) 7 1)) 115 2 ((px_up (px_up s 115 0 (s 7 0)) 115 1 ((px_up s 115 0 (s 7 0)) 7 1)) 7 2)) 7 3)) 115 4 ((px_up (px_up (px_up (px_up s 115 0 (s 7 0)) 115 1 ((px_up s 115 0 (s 7 0)) 7 1)) 115 2 ((px_up (px_up s 115 0 (s 7 0)) 115 1 ((px_up s 115 0 (s 7 0)) 7 1)) 7 2)) 115 3 ((px_up (px_up (px_up s 115 0 (s 7 0)) 115 1 ((px_up s 115 0 (s 7 0)) 7 1)) 115 2 ((px_up (px_up s 115 0 (s 7 0)) 115 1 ((px_up s 115 0 (s 7 0)) 7 1)) 7 2)) 7 3)) 7 4)) 7 5)) 7 6)) 7 7)) 8 116 0 0 8) 9 117 0 0 8) 10 118 0 0 8) 11 119 0 0 8) else none
set_option maxHeartbeats 4000000 in
set_option maxRecDepth 100000 in
theorem c_Fate_become_4 {sc : List Int} {d : Nat} {s : px_Z} {out : px_Z} (h : f_Fate_become_4 s  = some out) : px_D sc (d + 0) 1 0 [(0, .inr (.inr 115)), (1, .inr (.inr 7))] [] (px_G1, s) (px_Qv out) := by
  unfold f_Fate_become_4 at h
  refine px_D_st 27 (ip1 := 27) (ls1 := [(0, .inr (.inr 115)), (1, .inr (.inr 7))]) (st1 := [.inl ((px_up (px_up (px_up (px_up (px_up (px_up s 115 0 (s 7 0)) 115 1 ((px_up s 115 0 (s 7 0)) 7 1)) 115 2 ((px_up (px_up s 115 0 (s 7 0)) 115 1 ((px_up s 115 0 (s 7 0)) 7 1)) 7 2)) 115 3 ((px_up (px_up (px_up s 115 0 (s 7 0)) 115 1 ((px_up s 115 0 (s 7 0)) 7 1)) 115 2 ((px_up (px_up s 115 0 (s 7 0)) 115 1 ((px_up s 115 0 (s 7 0)) 7 1)) 7 2)) 7 3)) 115 4 ((px_up (px_up (px_up (px_up s 115 0 (s 7 0)) 115 1 ((px_up s 115 0 (s 7 0)) 7 1)) 115 2 ((px_up (px_up s 115 0 (s 7 0)) 115 1 ((px_up s 115 0 (s 7 0)) 7 1)) 7 2)) 115 3 ((px_up (px_up (px_up s 115 0 (s 7 0)) 115 1 ((px_up s 115 0 (s 7 0)) 7 1)) 115 2 ((px_up (px_up s 115 0 (s 7 0)) 115 1 ((px_up s 115 0 (s 7 0)) 7 1)) 7 2)) 7 3)) 7 4)) 115 5 ((px_up (px_up (px_up (px_up (px_up s 115 0 (s 7 0)) 115 1 ((px_up s 115 0 (s 7 0)) 7 1)) 115 2 ((px_up (px_up s 115 0 (s 7 0)) 115 1 ((px_up s 115 0 (s 7 0)) 7 1)) 7 2)) 115 3 ((px_up (px_up (px_up s 115 0 (s 7 0)) 115 1 ((px_up s 115 0 (s 7 0)) 7 1)) 115 2 ((px_up (px_up s 115 0 (s 7 0)) 115 1 ((px_up s 115 0 (s 7 0)) 7 1)) 7 2)) 7 3)) 115 4 ((px_up (px_up (px_up (px_up s 115 0 (s 7 0)) 115 1 ((px_up s 115 0 (s 7 0)) 7 1)) 115 2 ((px_up (px_up s 115 0 (s 7 0)) 115 1 ((px_up s 115 0 (s 7 0)) 7 1)) 7 2)) 115 3 ((px_up (px_up (px_up s 115 0 (s 7 0)) 115 1 ((px_up s 115 0 (s 7 0)) 7 1)) 115 2 ((px_up (px_up s 115 0 (s 7 0)) 115 1 ((px_up s 115 0 (s 7 0)) 7 1)) 7 2)) 7 3)) 7 4)) 7 5)) 7 6), .inr (.inr 115)]) (h1 := (px_G1, px_up (px_up (px_up (px_up (px_up (px_up s 115 0 (s 7 0)) 115 1 ((px_up s 115 0 (s 7 0)) 7 1)) 115 2 ((px_up (px_up s 115 0 (s 7 0)) 115 1 ((px_up s 115 0 (s 7 0)) 7 1)) 7 2)) 115 3 ((px_up (px_up (px_up s 115 0 (s 7 0)) 115 1 ((px_up s 115 0 (s 7 0)) 7 1)) 115 2 ((px_up (px_up s 115 0 (s 7 0)) 115 1 ((px_up s 115 0 (s 7 0)) 7 1)) 7 2)) 7 3)) 115 4 ((px_up (px_up (px_up (px_up s 115 0 (s 7 0)) 115 1 ((px_up s 115 0 (s 7 0)) 7 1)) 115 2 ((px_up (px_up s 115 0 (s 7 0)) 115 1 ((px_up s 115 0 (s 7 0)) 7 1)) 7 2)) 115 3 ((px_up (px_up (px_up s 115 0 (s 7 0)) 115 1 ((px_up s 115 0 (s 7 0)) 7 1)) 115 2 ((px_up (px_up s 115 0 (s 7 0)) 115 1 ((px_up s 115 0 (s 7 0)) 7 1)) 7 2)) 7 3)) 7 4)) 115 5 ((px_up (px_up (px_up (px_up (px_up s 115 0 (s 7 0)) 115 1 ((px_up s 115 0 (s 7 0)) 7 1)) 115 2 ((px_up (px_up s 115 0 (s 7 0)) 115 1 ((px_up s 115 0 (s 7 0)) 7 1)) 7 2)) 115 3 ((px_up (px_up (px_up s 115 0 (s 7 0)) 115 1 ((px_up s 115 0 (s 7 0)) 7 1)) 115 2 ((px_up (px_up s 115 0 (s 7 0)) 115 1 ((px_up s 115 0 (s 7 0)) 7 1)) 7 2)) 7 3)) 115 4 ((px_up (px_up (px_up (px_up s 115 0 (s 7 0)) 115 1 ((px_up s 115 0 (s 7 0)) 7 1)) 115 2 ((px_up (px_up s 115 0 (s 7 0)) 115 1 ((px_up s 115 0 (s 7 0)) 7 1)) 7 2)) 115 3 ((px_up (px_up (px_up s 115 0 (s 7 0)) 115 1 ((px_up s 115 0 (s 7 0)) 7 1)) 115 2 ((px_up (px_up s 115 0 (s 7 0)) 115 1 ((px_up s 115 0 (s 7 0)) 7 1)) 7 2)) 7 3)) 7 4)) 7 5))) rfl ?_
  by_cases hc1 : ((px_up (px_up (px_up (px_up (px_up (px_up s 115 0 (s 7 0)) 115 1 ((px_up s 115 0 (s 7 0)) 7 1)) 115 2 ((px_up (px_up s 115 0 (s 7 0)) 115 1 ((px_up s 115 0 (s 7 0)) 7 1)) 7 2)) 115 3 ((px_up (px_up (px_up s 115 0 (s 7 0)) 115 1 ((px_up s 115 0 (s 7 0)) 7 1)) 115 2 ((px_up (px_up s 115 0 (s 7 0)) 115 1 ((px_up s 115 0 (s 7 0)) 7 1)) 7 2)) 7 3)) 115 4 ((px_up (px_up (px_up (px_up s 115 0 (s 7 0)) 115 1 ((px_up s 115 0 (s 7 0)) 7 1)) 115 2 ((px_up (px_up s 115 0 (s 7 0)) 115 1 ((px_up s 115 0 (s 7 0)) 7 1)) 7 2)) 115 3 ((px_up (px_up (px_up s 115 0 (s 7 0)) 115 1 ((px_up s 115 0 (s 7 0)) 7 1)) 115 2 ((px_up (px_up s 115 0 (s 7 0)) 115 1 ((px_up s 115 0 (s 7 0)) 7 1)) 7 2)) 7 3)) 7 4)) 115 5 ((px_up (px_up (px_up (px_up (px_up s 115 0 (s 7 0)) 115 1 ((px_up s 115 0 (s 7 0)) 7 1)) 115 2 ((px_up (px_up s 115 0 (s 7 0)) 115 1 ((px_up s 115 0 (s 7 0)) 7 1)) 7 2)) 115 3 ((px_up (px_up (px_up s 115 0 (s 7 0)) 115 1 ((px_up s 115 0 (s 7 0)) 7 1)) 115 2 ((px_up (px_up s 115 0 (s 7 0)) 115 1 ((px_up s 115 0 (s 7 0)) 7 1)) 7 2)) 7 3)) 115 4 ((px_up (px_up (px_up (px_up s 115 0 (s 7 0)) 115 1 ((px_up s 115 0 (s 7 0)) 7 1)) 115 2 ((px_up (px_up s 115 0 (s 7 0)) 115 1 ((px_up s 115 0 (s 7 0)) 7 1)) 7 2)) 115 3 ((px_up (px_up (px_up s 115 0 (s 7 0)) 115 1 ((px_up s 115 0 (s 7 0)) 7 1)) 115 2 ((px_up (px_up s 115 0 (s 7 0)) 115 1 ((px_up s 115 0 (s 7 0)) 7 1)) 7 2)) 7 3)) 7 4)) 7 5)) 7 6) = 0 ∨ ((px_up (px_up (px_up (px_up (px_up (px_up s 115 0 (s 7 0)) 115 1 ((px_up s 115 0 (s 7 0)) 7 1)) 115 2 ((px_up (px_up s 115 0 (s 7 0)) 115 1 ((px_up s 115 0 (s 7 0)) 7 1)) 7 2)) 115 3 ((px_up (px_up (px_up s 115 0 (s 7 0)) 115 1 ((px_up s 115 0 (s 7 0)) 7 1)) 115 2 ((px_up (px_up s 115 0 (s 7 0)) 115 1 ((px_up s 115 0 (s 7 0)) 7 1)) 7 2)) 7 3)) 115 4 ((px_up (px_up (px_up (px_up s 115 0 (s 7 0)) 115 1 ((px_up s 115 0 (s 7 0)) 7 1)) 115 2 ((px_up (px_up s 115 0 (s 7 0)) 115 1 ((px_up s 115 0 (s 7 0)) 7 1)) 7 2)) 115 3 ((px_up (px_up (px_up s 115 0 (s 7 0)) 115 1 ((px_up s 115 0 (s 7 0)) 7 1)) 115 2 ((px_up (px_up s 115 0 (s 7 0)) 115 1 ((px_up s 115 0 (s 7 0)) 7 1)) 7 2)) 7 3)) 7 4)) 115 5 ((px_up (px_up (px_up (px_up (px_up s 115 0 (s 7 0)) 115 1 ((px_up s 115 0 (s 7 0)) 7 1)) 115 2 ((px_up (px_up s 115 0 (s 7 0)) 115 1 ((px_up s 115 0 (s 7 0)) 7 1)) 7 2)) 115 3 ((px_up (px_up (px_up s 115 0 (s 7 0)) 115 1 ((px_up s 115 0 (s 7 0)) 7 1)) 115 2 ((px_up (px_up s 115 0 (s 7 0)) 115 1 ((px_up s 115 0 (s 7 0)) 7 1)) 7 2)) 7 3)) 115 4 ((px_up (px_up (px_up (px_up s 115 0 (s 7 0)) 115 1 ((px_up s 115 0 (s 7 0)) 7 1)) 115 2 ((px_up (px_up s 115 0 (s 7 0)) 115 1 ((px_up s 115 0 (s 7 0)) 7 1)) 7 2)) 115 3 ((px_up (px_up (px_up s 115 0 (s 7 0)) 115 1 ((px_up s 115 0 (s 7 0)) 7 1)) 115 2 ((px_up (px_up s 115 0 (s 7 0)) 115 1 ((px_up s 115 0 (s 7 0)) 7 1)) 7 2)) 7 3)) 7 4)) 7 5)) 7 6) = 1
  case neg => rw [if_neg hc1] at h; cases h
  rw [if_pos hc1] at h
  refine px_D_putz (k := 110) rfl rfl rfl rfl hc1 ?_
  refine px_D_st 36 (ip1 := 64) (ls1 := [(0, .inr (.inr 115)), (1, .inr (.inr 7))]) (st1 := []) (h1 := (px_G1, px_cp (px_cp (px_cp (px_cp (px_up (px_up (px_up (px_up (px_up (px_up (px_up (px_up s 115 0 (s 7 0)) 115 1 ((px_up s 115 0 (s 7 0)) 7 1)) 115 2 ((px_up (px_up s 115 0 (s 7 0)) 115 1 ((px_up s 115 0 (s 7 0)) 7 1)) 7 2)) 115 3 ((px_up (px_up (px_up s 115 0 (s 7 0)) 115 1 ((px_up s 115 0 (s 7 0)) 7 1)) 115 2 ((px_up (px_up s 115 0 (s 7 0)) 115 1 ((px_up s 115 0 (s 7 0)) 7 1)) 7 2)) 7 3)) 115 4 ((px_up (px_up (px_up (px_up s 115 0 (s 7 0)) 115 1 ((px_up s 115 0 (s 7 0)) 7 1)) 115 2 ((px_up (px_up s 115 0 (s 7 0)) 115 1 ((px_up s 115 0 (s 7 0)) 7 1)) 7 2)) 115 3 ((px_up (px_up (px_up s 115 0 (s 7 0)) 115 1 ((px_up s 115 0 (s 7 0)) 7 1)) 115 2 ((px_up (px_up s 115 0 (s 7 0)) 115 1 ((px_up s 115 0 (s 7 0)) 7 1)) 7 2)) 7 3)) 7 4)) 115 5 ((px_up (px_up (px_up (px_up (px_up s 115 0 (s 7 0)) 115 1 ((px_up s 115 0 (s 7 0)) 7 1)) 115 2 ((px_up (px_up s 115 0 (s 7 0)) 115 1 ((px_up s 115 0 (s 7 0)) 7 1)) 7 2)) 115 3 ((px_up (px_up (px_up s 115 0 (s 7 0)) 115 1 ((px_up s 115 0 (s 7 0)) 7 1)) 115 2 ((px_up (px_up s 115 0 (s 7 0)) 115 1 ((px_up s 115 0 (s 7 0)) 7 1)) 7 2)) 7 3)) 115 4 ((px_up (px_up (px_up (px_up s 115 0 (s 7 0)) 115 1 ((px_up s 115 0 (s 7 0)) 7 1)) 115 2 ((px_up (px_up s 115 0 (s 7 0)) 115 1 ((px_up s 115 0 (s 7 0)) 7 1)) 7 2)) 115 3 ((px_up (px_up (px_up s 115 0 (s 7 0)) 115 1 ((px_up s 115 0 (s 7 0)) 7 1)) 115 2 ((px_up (px_up s 115 0 (s 7 0)) 115 1 ((px_up s 115 0 (s 7 0)) 7 1)) 7 2)) 7 3)) 7 4)) 7 5)) 115 6 ((px_up (px_up (px_up (px_up (px_up (px_up s 115 0 (s 7 0)) 115 1 ((px_up s 115 0 (s 7 0)) 7 1)) 115 2 ((px_up (px_up s 115 0 (s 7 0)) 115 1 ((px_up s 115 0 (s 7 0)) 7 1)) 7 2)) 115 3 ((px_up (px_up (px_up s 115 0 (s 7 0)) 115 1 ((px_up s 115 0 (s 7 0)) 7 1)) 115 2 ((px_up (px_up s 115 0 (s 7 0)) 115 1 ((px_up s 115 0 (s 7 0)) 7 1)) 7 2)) 7 3)) 115 4 ((px_up (px_up (px_up (px_up s 115 0 (s 7 0)) 115 1 ((px_up s 115 0 (s 7 0)) 7 1)) 115 2 ((px_up (px_up s 115 0 (s 7 0)) 115 1 ((px_up s 115 0 (s 7 0)) 7 1)) 7 2)) 115 3 ((px_up (px_up (px_up s 115 0 (s 7 0)) 115 1 ((px_up s 115 0 (s 7 0)) 7 1)) 115 2 ((px_up (px_up s 115 0 (s 7 0)) 115 1 ((px_up s 115 0 (s 7 0)) 7 1)) 7 2)) 7 3)) 7 4)) 115 5 ((px_up (px_up (px_up (px_up (px_up s 115 0 (s 7 0)) 115 1 ((px_up s 115 0 (s 7 0)) 7 1)) 115 2 ((px_up (px_up s 115 0 (s 7 0)) 115 1 ((px_up s 115 0 (s 7 0)) 7 1)) 7 2)) 115 3 ((px_up (px_up (px_up s 115 0 (s 7 0)) 115 1 ((px_up s 115 0 (s 7 0)) 7 1)) 115 2 ((px_up (px_up s 115 0 (s 7 0)) 115 1 ((px_up s 115 0 (s 7 0)) 7 1)) 7 2)) 7 3)) 115 4 ((px_up (px_up (px_up (px_up s 115 0 (s 7 0)) 115 1 ((px_up s 115 0 (s 7 0)) 7 1)) 115 2 ((px_up (px_up s 115 0 (s 7 0)) 115 1 ((px_up s 115 0 (s 7 0)) 7 1)) 7 2)) 115 3 ((px_up (px_up (px_up s 115 0 (s 7 0)) 115 1 ((px_up s 115 0 (s 7 0)) 7 1)) 115 2 ((px_up (px_up s 115 0 (s 7 0)) 115 1 ((px_up s 115 0 (s 7 0)) 7 1)) 7 2)) 7 3)) 7 4)) 7 5)) 7 6)) 115 7 ((px_up (px_up (px_up (px_up (px_up (px_up (px_up s 115 0 (s 7 0)) 115 1 ((px_up s 115 0 (s 7 0)) 7 1)) 115 2 ((px_up (px_up s 115 0 (s 7 0)) 115 1 ((px_up s 115 0 (s 7 0)) 7 1)) 7 2)) 115 3 ((px_up (px_up (px_up s 115 0 (s 7 0)) 115 1 ((px_up s 115 0 (s 7 0)) 7 1)) 115 2 ((px_up (px_up s 115 0 (s 7 0)) 115 1 ((px_up s 115 0 (s 7 0)) 7 1)) 7 2)) 7 3)) 115 4 ((px_up (px_up (px_up (px_up s 115 0 (s 7 0)) 115 1 ((px_up s 115 0 (s 7 0)) 7 1)) 115 2 ((px_up (px_up s 115 0 (s 7 0)) 115 1 ((px_up s 115 0 (s 7 0)) 7 1)) 7 2)) 115 3 ((px_up (px_up (px_up s 115 0 (s 7 0)) 115 1 ((px_up s 115 0 (s 7 0)) 7 1)) 115 2 ((px_up (px_up s 115 0 (s 7 0)) 115 1 ((px_up s 115 0 (s 7 0)) 7 1)) 7 2)) 7 3)) 7 4)) 115 5 ((px_up (px_up (px_up (px_up (px_up s 115 0 (s 7 0)) 115 1 ((px_up s 115 0 (s 7 0)) 7 1)) 115 2 ((px_up (px_up s 115 0 (s 7 0)) 115 1 ((px_up s 115 0 (s 7 0)) 7 1)) 7 2)) 115 3 ((px_up (px_up (px_up s 115 0 (s 7 0)) 115 1 ((px_up s 115 0 (s 7 0)) 7 1)) 115 2 ((px_up (px_up s 115 0 (s 7 0)) 115 1 ((px_up s 115 0 (s 7 0)) 7 1)) 7 2)) 7 3)) 115 4 ((px_up (px_up (px_up (px_up s 115 0 (s 7 0)) 115 1 ((px_up s 115 0 (s 7 0)) 7 1)) 115 2 ((px_up (px_up s 115 0 (s 7 0)) 115 1 ((px_up s 115 0 (s 7 0)) 7 1)) 7 2)) 115 3 ((px_up (px_up (px_up s 115 0 (s 7 0)) 115 1 ((px_up s 115 0 (s 7 0)) 7 1)) 115 2 ((px_up (px_up s 115 0 (s 7 0)) 115 1 ((px_up s 115 0 (s 7 0)) 7 1)) 7 2)) 7 3)) 7 4)) 7 5)) 115 6 ((px_up (px_up (px_up (px_up (px_up (px_up s 115 0 (s 7 0)) 115 1 ((px_up s 115 0 (s 7 0)) 7 1)) 115 2 ((px_up (px_up s 115 0 (s 7 0)) 115 1 ((px_up s 115 0 (s 7 0)) 7 1)) 7 2)) 115 3 ((px_up (px_up (px_up s 115 0 (s 7 0)) 115 1 ((px_up s 115 0 (s 7 0)) 7 1)) 115 2 ((px_up (px_up s 115 0 (s 7 0)) 115 1 ((px_up s 115 0 (s 7 0)) 7 1)) 7 2)) 7 3)) 115 4 ((px_up (px_up (px_up (px_up s 115 0 (s 7 0)) 115 1 ((px_up s 115 0 (s 7 0)) 7 1)) 115 2 ((px_up (px_up s 115 0 (s 7 0)) 115 1 ((px_up s 115 0 (s 7 0)) 7 1)) 7 2)) 115 3 ((px_up (px_up (px_up s 115 0 (s 7 0)) 115 1 ((px_up s 115 0 (s 7 0)) 7 1)) 115 2 ((px_up (px_up s 115 0 (s 7 0)) 115 1 ((px_up s 115 0 (s 7 0)) 7 1)) 7 2)) 7 3)) 7 4)) 115 5 ((px_up (px_up (px_up (px_up (px_up s 115 0 (s 7 0)) 115 1 ((px_up s 115 0 (s 7 0)) 7 1)) 115 2 ((px_up (px_up s 115 0 (s 7 0)) 115 1 ((px_up s 115 0 (s 7 0)) 7 1)) 7 2)) 115 3 ((px_up (px_up (px_up s 115 0 (s 7 0)) 115 1 ((px_up s 115 0 (s 7 0)) 7 1)) 115 2 ((px_up (px_up s 115 0 (s 7 0)) 115 1 ((px_up s 115 0 (s 7 0)) 7 1)) 7 2)) 7 3)) 115 4 ((px_up (px_up (px_up (px_up s 115 0 (s 7 0)) 115 1 ((px_up s 115 0 (s 7 0)) 7 1)) 115 2 ((px_up (px_up s 115 0 (s 7 0)) 115 1 ((px_up s 115 0 (s 7 0)) 7 1)) 7 2)) 115 3 ((px_up (px_up (px_up s 115 0 (s 7 0)) 115 1 ((px_up s 115 0 (s 7 0)) 7 1)) 115 2 ((px_up (px_up s 115 0 (s 7 0)) 115 1 ((px_up s 115 0 (s 7 0)) 7 1)) 7 2)) 7 3)) 7 4)) 7 5)) 7 6)) 7 7)) 8 116 0 0 8) 9 117 0 0 8) 10 118 0 0 8) 11 119 0 0 8)) rfl ?_
  cases h
  exact px_D_vret rfl ⟨rfl, rfl⟩
