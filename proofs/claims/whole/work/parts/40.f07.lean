
def f_Law_addLine (s : px_Z) (x1 : Int) (x2 : Int) (x3 : Int) : Option (px_Z) := if (16) ≤ (s 125 0) then some s else (if 0 ≤ (s 125 0) ∧ (s 125 0) < 16 then if 0 ≤ ((px_up s 126 (s 125 0).toNat x1) 125 0) ∧ ((px_up s 126 (s 125 0).toNat x1) 125 0) < 16 then if 0 ≤ ((px_up (px_up s 126 (s 125 0).toNat x1) 127 ((px_up s 126 (s 125 0).toNat x1) 125 0).toNat x2) 125 0) ∧ ((px_up (px_up s 126 (s 125 0).toNat x1) 127 ((px_up s 126 (s 125 0).toNat x1) 125 0).toNat x2) 125 0) < 16 then if 0 ≤ ((px_up (px_up (px_up s 126 (s 125 0).toNat x1) 127 ((px_up s 126 (s 125 0).toNat x1) 125 0).toNat x2) 128 ((px_up (px_up s 126 (s 125 0).toNat x1) 127 ((px_up s 126 (s 125 0).toNat x1) 125 0).toNat x2) 125 0).toNat x3) 125 0) ∧ ((px_up (px_up (px_up s 126 (s 125 0).toNat x1) 127 ((px_up s 126 (s 125 0).toNat x1) 125 0).toNat x2) 128 ((px_up (px_up s 126 (s 125 0).toNat x1) 127 ((px_up s 126 (s 125 0).toNat x1) 125 0).toNat x2) 125 0).toNat x3) 125 0) < 16 then some (px_up (px_up (px_up (px_up (px_up s 126 (s 125 0).toNat x1) 127 ((px_up s 126 (s 125 0).toNat x1) 125 0).toNat x2) 128 ((px_up (px_up s 126 (s 125 0).toNat x1) 127 ((px_up s 126 (s 125 0).toNat x1) 125 0).toNat x2) 125 0).toNat x3) 129 ((px_up (px_up (px_up s 126 (s 125 0).toNat x1) 127 ((px_up s 126 (s 125 0).toNat x1) 125 0).toNat x2) 128 ((px_up (px_up s 126 (s 125 0).toNat x1) 127 ((px_up s 126 (s 125 0).toNat x1) 125 0).toNat x2) 125 0).toNat x3) 125 0).toNat ((px_up (px_up (px_up s 126 (s 125 0).toNat x1) 127 ((px_up s 126 (s 125 0).toNat x1) 125 0).toNat x2) 128 ((px_up (px_up s 126 (s 125 0).toNat x1) 127 ((px_up s 126 (s 125 0).toNat x1) 125 0).toNat x2) 125 0).toNat x3) 125 1)) 125 0 (px_wr (((px_up (px_up (px_up (px_up s 126 (s 125 0).toNat x1) 127 ((px_up s 126 (s 125 0).toNat x1) 125 0).toNat x2) 128 ((px_up (px_up s 126 (s 125 0).toNat x1) 127 ((px_up s 126 (s 125 0).toNat x1) 125 0).toNat x2) 125 0).toNat x3) 129 ((px_up (px_up (px_up s 126 (s 125 0).toNat x1) 127 ((px_up s 126 (s 125 0).toNat x1) 125 0).toNat x2) 128 ((px_up (px_up s 126 (s 125 0).toNat x1) 127 ((px_up s 126 (s 125 0).toNat x1) 125 0).toNat x2) 125 0).toNat x3) 125 0).toNat ((px_up (px_up (px_up s 126 (s 125 0).toNat x1) 127 ((px_up s 126 (s 125 0).toNat x1) 125 0).toNat x2) 128 ((px_up (px_up s 126 (s 125 0).toNat x1) 127 ((px_up s 126 (s 125 0).toNat x1) 125 0).toNat x2) 125 0).toNat x3) 125 1)) 125 0) + 1))) else none else none else none else none)
set_option maxHeartbeats 4000000 in
set_option maxRecDepth 100000 in
theorem c_Law_addLine {sc : List Int} {d : Nat} {s : px_Z} {x1 : Int} {x2 : Int} {x3 : Int} {out : px_Z} (h : f_Law_addLine s x1 x2 x3 = some out) : px_D sc (d + 0) 15 0 [(0, .inr (.inr 125)), (1, .inl (x1)), (2, .inl (x2)), (3, .inl (x3))] [] (px_G1, s) (px_Qv out) := by
  unfold f_Law_addLine at h
  refine px_D_st 3 (ip1 := 3) (ls1 := [(0, .inr (.inr 125)), (1, .inl (x1)), (2, .inl (x2)), (3, .inl (x3))]) (st1 := [.inl (16), .inl (s 125 0)]) (h1 := (px_G1, s)) rfl ?_
  refine px_D_icmp rfl (fun hc => ?_) (fun hc => ?_)
  · have hc1 : (16) ≤ (s 125 0) := of_decide_eq_true hc
    rw [if_pos hc1] at h
    cases h
    exact px_D_vret rfl ⟨rfl, rfl⟩
  · have hc1 : ¬ ((16) ≤ (s 125 0)) := of_decide_eq_false hc
    rw [if_neg hc1] at h
    refine px_D_st 5 (ip1 := 9) (ls1 := [(0, .inr (.inr 125)), (1, .inl (x1)), (2, .inl (x2)), (3, .inl (x3))]) (st1 := [.inl (x1), .inl (s 125 0), .inr (.inr 126)]) (h1 := (px_G1, s)) rfl ?_
    by_cases hc2 : 0 ≤ (s 125 0) ∧ (s 125 0) < 16
    case neg => rw [if_neg hc2] at h; cases h
    rw [if_pos hc2] at h
    refine px_D_iast (k := 121) (n := 16) rfl rfl hc2 ?_
    refine px_D_st 5 (ip1 := 15) (ls1 := [(0, .inr (.inr 125)), (1, .inl (x1)), (2, .inl (x2)), (3, .inl (x3))]) (st1 := [.inl (x2), .inl ((px_up s 126 (s 125 0).toNat x1) 125 0), .inr (.inr 127)]) (h1 := (px_G1, px_up s 126 (s 125 0).toNat x1)) rfl ?_
    by_cases hc3 : 0 ≤ ((px_up s 126 (s 125 0).toNat x1) 125 0) ∧ ((px_up s 126 (s 125 0).toNat x1) 125 0) < 16
    case neg => rw [if_neg hc3] at h; cases h
    rw [if_pos hc3] at h
    refine px_D_iast (k := 122) (n := 16) rfl rfl hc3 ?_
    refine px_D_st 5 (ip1 := 21) (ls1 := [(0, .inr (.inr 125)), (1, .inl (x1)), (2, .inl (x2)), (3, .inl (x3))]) (st1 := [.inl (x3), .inl ((px_up (px_up s 126 (s 125 0).toNat x1) 127 ((px_up s 126 (s 125 0).toNat x1) 125 0).toNat x2) 125 0), .inr (.inr 128)]) (h1 := (px_G1, px_up (px_up s 126 (s 125 0).toNat x1) 127 ((px_up s 126 (s 125 0).toNat x1) 125 0).toNat x2)) rfl ?_
    by_cases hc4 : 0 ≤ ((px_up (px_up s 126 (s 125 0).toNat x1) 127 ((px_up s 126 (s 125 0).toNat x1) 125 0).toNat x2) 125 0) ∧ ((px_up (px_up s 126 (s 125 0).toNat x1) 127 ((px_up s 126 (s 125 0).toNat x1) 125 0).toNat x2) 125 0) < 16
    case neg => rw [if_neg hc4] at h; cases h
    rw [if_pos hc4] at h
    refine px_D_iast (k := 123) (n := 16) rfl rfl hc4 ?_
    refine px_D_st 6 (ip1 := 28) (ls1 := [(0, .inr (.inr 125)), (1, .inl (x1)), (2, .inl (x2)), (3, .inl (x3))]) (st1 := [.inl ((px_up (px_up (px_up s 126 (s 125 0).toNat x1) 127 ((px_up s 126 (s 125 0).toNat x1) 125 0).toNat x2) 128 ((px_up (px_up s 126 (s 125 0).toNat x1) 127 ((px_up s 126 (s 125 0).toNat x1) 125 0).toNat x2) 125 0).toNat x3) 125 1), .inl ((px_up (px_up (px_up s 126 (s 125 0).toNat x1) 127 ((px_up s 126 (s 125 0).toNat x1) 125 0).toNat x2) 128 ((px_up (px_up s 126 (s 125 0).toNat x1) 127 ((px_up s 126 (s 125 0).toNat x1) 125 0).toNat x2) 125 0).toNat x3) 125 0), .inr (.inr 129)]) (h1 := (px_G1, px_up (px_up (px_up s 126 (s 125 0).toNat x1) 127 ((px_up s 126 (s 125 0).toNat x1) 125 0).toNat x2) 128 ((px_up (px_up s 126 (s 125 0).toNat x1) 127 ((px_up s 126 (s 125 0).toNat x1) 125 0).toNat x2) 125 0).toNat x3)) rfl ?_
    by_cases hc5 : 0 ≤ ((px_up (px_up (px_up s 126 (s 125 0).toNat x1) 127 ((px_up s 126 (s 125 0).toNat x1) 125 0).toNat x2) 128 ((px_up (px_up s 126 (s 125 0).toNat x1) 127 ((px_up s 126 (s 125 0).toNat x1) 125 0).toNat x2) 125 0).toNat x3) 125 0) ∧ ((px_up (px_up (px_up s 126 (s 125 0).toNat x1) 127 ((px_up s 126 (s 125 0).toNat x1) 125 0).toNat x2) 128 ((px_up (px_up s 126 (s 125 0).toNat x1) 127 ((px_up s 126 (s 125 0).toNat x1) 125 0).toNat x2) 125 0).toNat x3) 125 0) < 16
    case neg => rw [if_neg hc5] at h; cases h
    rw [if_pos hc5] at h
    refine px_D_iast (k := 124) (n := 16) rfl rfl hc5 ?_
    refine px_D_st 6 (ip1 := 35) (ls1 := [(0, .inr (.inr 125)), (1, .inl (x1)), (2, .inl (x2)), (3, .inl (x3))]) (st1 := []) (h1 := (px_G1, px_up (px_up (px_up (px_up (px_up s 126 (s 125 0).toNat x1) 127 ((px_up s 126 (s 125 0).toNat x1) 125 0).toNat x2) 128 ((px_up (px_up s 126 (s 125 0).toNat x1) 127 ((px_up s 126 (s 125 0).toNat x1) 125 0).toNat x2) 125 0).toNat x3) 129 ((px_up (px_up (px_up s 126 (s 125 0).toNat x1) 127 ((px_up s 126 (s 125 0).toNat x1) 125 0).toNat x2) 128 ((px_up (px_up s 126 (s 125 0).toNat x1) 127 ((px_up s 126 (s 125 0).toNat x1) 125 0).toNat x2) 125 0).toNat x3) 125 0).toNat ((px_up (px_up (px_up s 126 (s 125 0).toNat x1) 127 ((px_up s 126 (s 125 0).toNat x1) 125 0).toNat x2) 128 ((px_up (px_up s 126 (s 125 0).toNat x1) 127 ((px_up s 126 (s 125 0).toNat x1) 125 0).toNat x2) 125 0).toNat x3) 125 1)) 125 0 (px_wr (((px_up (px_up (px_up (px_up s 126 (s 125 0).toNat x1) 127 ((px_up s 126 (s 125 0).toNat x1) 125 0).toNat x2) 128 ((px_up (px_up s 126 (s 125 0).toNat x1) 127 ((px_up s 126 (s 125 0).toNat x1) 125 0).toNat x2) 125 0).toNat x3) 129 ((px_up (px_up (px_up s 126 (s 125 0).toNat x1) 127 ((px_up s 126 (s 125 0).toNat x1) 125 0).toNat x2) 128 ((px_up (px_up s 126 (s 125 0).toNat x1) 127 ((px_up s 126 (s 125 0).toNat x1) 125 0).toNat x2) 125 0).toNat x3) 125 0).toNat ((px_up (px_up (px_up s 126 (s 125 0).toNat x1) 127 ((px_up s 126 (s 125 0).toNat x1) 125 0).toNat x2) 128 ((px_up (px_up s 126 (s 125 0).toNat x1) 127 ((px_up s 126 (s 125 0).toNat x1) 125 0).toNat x2) 125 0).toNat x3) 125 1)) 125 0) + 1)))) rfl ?_
    cases h
    exact px_D_vret rfl ⟨rfl, rfl⟩

def j_Reader_readLawLine_j60 (s : px_Z) (x2 : Int) (x4 : Int) (x5 : Int) : Option (px_Z) := if (s 121 7) = (0) then (f_Reader_expect s 59).bind (fun q9 => (f_Law_addLine q9 x2 x4 x5).bind (fun q10 => some q10)) else some s
set_option maxHeartbeats 4000000 in
set_option maxRecDepth 100000 in
theorem cj_Reader_readLawLine_j60 {sc : List Int} {d : Nat} {s : px_Z} {x2 : Int} {x4 : Int} {x5 : Int} {out : px_Z} (h : j_Reader_readLawLine_j60 s x2 x4 x5 = some out) : px_D sc (d + 193) 50 60 [(0, .inr (.inr 121)), (2, .inl (x2)), (4, .inl (x4)), (5, .inl (x5))] [] (px_G1, s) (px_Qv out) := by
  unfold j_Reader_readLawLine_j60 at h
  refine px_D_st 2 (ip1 := 62) (ls1 := [(0, .inr (.inr 121)), (2, .inl (x2)), (4, .inl (x4)), (5, .inl (x5))]) (st1 := [.inl (s 121 7)]) (h1 := (px_G1, s)) rfl ?_
  refine px_D_ifc rfl (fun hc => ?_) (fun hc => ?_)
  · have hc8 : ¬ ((s 121 7) = (0)) := of_decide_eq_true hc
    rw [if_neg hc8] at h
    cases h
    exact px_D_vret rfl ⟨rfl, rfl⟩
  · have hc8 : (s 121 7) = (0) := Decidable.of_not_not (of_decide_eq_false hc)
    rw [if_pos hc8] at h
    refine px_D_st 2 (ip1 := 65) (ls1 := [(0, .inr (.inr 121)), (2, .inl (x2)), (4, .inl (x4)), (5, .inl (x5))]) (st1 := [.inl (59), .inr (.inr 121)]) (h1 := (px_G1, s)) rfl ?_
    refine px_D_call (as := [.inr (.inr 121), .inl (59)]) (rest := []) rfl rfl rfl rfl ?_
    obtain ⟨q9, hq9, h⟩ := Option.bind_eq_some_iff.mp h
    refine px_D_mono (c_Reader_expect (d := d + 191) hq9) ?_
    rintro _ _ ⟨rfl, rfl⟩
    show px_D sc (d + 193) 50 66 [(0, .inr (.inr 121)), (2, .inl (x2)), (4, .inl (x4)), (5, .inl (x5))] [] (px_G1, q9) _
    refine px_D_st 5 (ip1 := 71) (ls1 := [(0, .inr (.inr 121)), (2, .inl (x2)), (4, .inl (x4)), (5, .inl (x5))]) (st1 := [.inl (x5), .inl (x4), .inl (x2), .inr (.inr 125)]) (h1 := (px_G1, q9)) rfl ?_
    refine px_D_call (as := [.inr (.inr 125), .inl (x2), .inl (x4), .inl (x5)]) (rest := []) rfl rfl rfl rfl ?_
    obtain ⟨q10, hq10, h⟩ := Option.bind_eq_some_iff.mp h
    refine px_D_mono (c_Law_addLine (d := d + 192) hq10) ?_
    rintro _ _ ⟨rfl, rfl⟩
    show px_D sc (d + 193) 50 72 [(0, .inr (.inr 121)), (2, .inl (x2)), (4, .inl (x4)), (5, .inl (x5))] [] (px_G1, q10) _
    cases h
    exact px_D_vret rfl ⟨rfl, rfl⟩
def j_Reader_readLawLine_j20 (s : px_Z) (x1 : Int) (x2 : Int) (t0 : Int) : Option (px_Z) := if (t0) = (0) then (f_Reader_fail s 1).bind (fun q16 => some q16) else (if (x1) = (0) then (f_Reader_step s ).bind (fun q5 => (f_Reader_readSum q5 ).bind (fun q6 => if (q6 121 7) = (0) then (if 0 ≤ (q6 121 4) ∧ (q6 121 4) < 401 then if (q6 122 (q6 121 4).toNat) = (269) then (f_Reader_step q6 ).bind (fun q13 => (f_Reader_readEither q13 0).bind (fun q14 => j_Reader_readLawLine_j60 q14 x2 (q5 125 1) (q6 125 1))) else j_Reader_readLawLine_j60 q6 x2 (q5 125 1) (q6 125 1) else none) else j_Reader_readLawLine_j60 q6 x2 (q5 125 1) (q6 125 1))) else (f_Reader_fail s 3).bind (fun q15 => some q15))
set_option maxHeartbeats 4000000 in
set_option maxRecDepth 100000 in
theorem cj_Reader_readLawLine_j20 {sc : List Int} {d : Nat} {s : px_Z} {x1 : Int} {x2 : Int} {t0 : Int} {out : px_Z} (h : j_Reader_readLawLine_j20 s x1 x2 t0 = some out) : px_D sc (d + 193) 50 20 [(0, .inr (.inr 121)), (1, .inl (x1)), (2, .inl (x2))] [.inl (t0)] (px_G1, s) (px_Qv out) := by
  unfold j_Reader_readLawLine_j20 at h
  refine px_D_st 2 (ip1 := 22) (ls1 := [(3, .inl (t0)), (0, .inr (.inr 121)), (1, .inl (x1)), (2, .inl (x2))]) (st1 := [.inl (t0)]) (h1 := (px_G1, s)) rfl ?_
  refine px_D_ifc rfl (fun hc => ?_) (fun hc => ?_)
  · have hc3 : ¬ ((t0) = (0)) := of_decide_eq_true hc
    rw [if_neg hc3] at h
    refine px_D_st 1 (ip1 := 28) (ls1 := [(3, .inl (t0)), (0, .inr (.inr 121)), (1, .inl (x1)), (2, .inl (x2))]) (st1 := [.inl (x1)]) (h1 := (px_G1, s)) rfl ?_
    refine px_D_ifc rfl (fun hc => ?_) (fun hc => ?_)
    · have hc4 : (x1) = (0) := of_decide_eq_true hc
      rw [if_pos hc4] at h
      refine px_D_st 1 (ip1 := 34) (ls1 := [(3, .inl (t0)), (0, .inr (.inr 121)), (1, .inl (x1)), (2, .inl (x2))]) (st1 := [.inr (.inr 121)]) (h1 := (px_G1, s)) rfl ?_
      refine px_D_call (as := [.inr (.inr 121)]) (rest := []) rfl rfl rfl rfl ?_
      obtain ⟨q5, hq5, h⟩ := Option.bind_eq_some_iff.mp h
      refine px_D_mono (c_Reader_step (d := d + 192) hq5) ?_
      rintro _ _ ⟨rfl, rfl⟩
      show px_D sc (d + 193) 50 35 [(3, .inl (t0)), (0, .inr (.inr 121)), (1, .inl (x1)), (2, .inl (x2))] [] (px_G1, q5) _
      refine px_D_st 5 (ip1 := 40) (ls1 := [(4, .inl (q5 125 1)), (3, .inl (t0)), (0, .inr (.inr 121)), (1, .inl (x1)), (2, .inl (x2))]) (st1 := [.inr (.inr 121)]) (h1 := (px_G1, q5)) rfl ?_
      refine px_D_call (as := [.inr (.inr 121)]) (rest := []) rfl rfl rfl rfl ?_
      obtain ⟨q6, hq6, h⟩ := Option.bind_eq_some_iff.mp h
      refine px_D_mono (c_Reader_readSum (d := d + 190) hq6) ?_
      rintro _ _ ⟨rfl, rfl⟩
      show px_D sc (d + 193) 50 41 [(4, .inl (q5 125 1)), (3, .inl (t0)), (0, .inr (.inr 121)), (1, .inl (x1)), (2, .inl (x2))] [] (px_G1, q6) _
      refine px_D_st 6 (ip1 := 47) (ls1 := [(5, .inl (q6 125 1)), (4, .inl (q5 125 1)), (3, .inl (t0)), (0, .inr (.inr 121)), (1, .inl (x1)), (2, .inl (x2))]) (st1 := [.inl (q6 121 7)]) (h1 := (px_G1, q6)) rfl ?_
      refine px_D_ifc rfl (fun hc => ?_) (fun hc => ?_)
      · have hc7 : ¬ ((q6 121 7) = (0)) := of_decide_eq_true hc
        rw [if_neg hc7] at h
        refine px_D_ls [(0, .inr (.inr 121)), (2, .inl (x2)), (4, .inl (q5 125 1)), (5, .inl (q6 125 1))] rfl rfl (List.forall_mem_cons.mpr ⟨rfl, List.forall_mem_cons.mpr ⟨rfl, List.forall_mem_cons.mpr ⟨rfl, List.forall_mem_cons.mpr ⟨rfl, fun _ h => absurd h List.not_mem_nil⟩⟩⟩⟩) ?_
        exact cj_Reader_readLawLine_j60 h
      · have hc7 : (q6 121 7) = (0) := Decidable.of_not_not (of_decide_eq_false hc)
        rw [if_pos hc7] at h
        refine px_D_st 4 (ip1 := 52) (ls1 := [(5, .inl (q6 125 1)), (4, .inl (q5 125 1)), (3, .inl (t0)), (0, .inr (.inr 121)), (1, .inl (x1)), (2, .inl (x2))]) (st1 := [.inl (q6 121 4), .inr (.inr 122)]) (h1 := (px_G1, q6)) rfl ?_
        by_cases hc11 : 0 ≤ (q6 121 4) ∧ (q6 121 4) < 401
        case neg => rw [if_neg hc11] at h; cases h
        rw [if_pos hc11] at h
        refine px_D_iald (k := 117) (n := 401) rfl rfl hc11 ?_
        refine px_D_st 1 (ip1 := 54) (ls1 := [(5, .inl (q6 125 1)), (4, .inl (q5 125 1)), (3, .inl (t0)), (0, .inr (.inr 121)), (1, .inl (x1)), (2, .inl (x2))]) (st1 := [.inl (269), .inl (q6 122 (q6 121 4).toNat)]) (h1 := (px_G1, q6)) rfl ?_
        refine px_D_icmp rfl (fun hc => ?_) (fun hc => ?_)
        · have hc12 : ¬ ((q6 122 (q6 121 4).toNat) = (269)) := of_decide_eq_true hc
          rw [if_neg hc12] at h
          refine px_D_ls [(0, .inr (.inr 121)), (2, .inl (x2)), (4, .inl (q5 125 1)), (5, .inl (q6 125 1))] rfl rfl (List.forall_mem_cons.mpr ⟨rfl, List.forall_mem_cons.mpr ⟨rfl, List.forall_mem_cons.mpr ⟨rfl, List.forall_mem_cons.mpr ⟨rfl, fun _ h => absurd h List.not_mem_nil⟩⟩⟩⟩) ?_
          exact cj_Reader_readLawLine_j60 h
        · have hc12 : (q6 122 (q6 121 4).toNat) = (269) := Decidable.of_not_not (of_decide_eq_false hc)
          rw [if_pos hc12] at h
          refine px_D_st 1 (ip1 := 56) (ls1 := [(5, .inl (q6 125 1)), (4, .inl (q5 125 1)), (3, .inl (t0)), (0, .inr (.inr 121)), (1, .inl (x1)), (2, .inl (x2))]) (st1 := [.inr (.inr 121)]) (h1 := (px_G1, q6)) rfl ?_
          refine px_D_call (as := [.inr (.inr 121)]) (rest := []) rfl rfl rfl rfl ?_
          obtain ⟨q13, hq13, h⟩ := Option.bind_eq_some_iff.mp h
          refine px_D_mono (c_Reader_step (d := d + 192) hq13) ?_
          rintro _ _ ⟨rfl, rfl⟩
          show px_D sc (d + 193) 50 57 [(5, .inl (q6 125 1)), (4, .inl (q5 125 1)), (3, .inl (t0)), (0, .inr (.inr 121)), (1, .inl (x1)), (2, .inl (x2))] [] (px_G1, q13) _
          refine px_D_st 2 (ip1 := 59) (ls1 := [(5, .inl (q6 125 1)), (4, .inl (q5 125 1)), (3, .inl (t0)), (0, .inr (.inr 121)), (1, .inl (x1)), (2, .inl (x2))]) (st1 := [.inl (0), .inr (.inr 121)]) (h1 := (px_G1, q13)) rfl ?_
          refine px_D_call (as := [.inr (.inr 121), .inl (0)]) (rest := []) rfl rfl rfl rfl ?_
          obtain ⟨q14, hq14, h⟩ := Option.bind_eq_some_iff.mp h
          refine px_D_mono (c_Reader_readEither (d := d + 0) hq14) ?_
          rintro _ _ ⟨rfl, rfl⟩
          show px_D sc (d + 193) 50 60 [(5, .inl (q6 125 1)), (4, .inl (q5 125 1)), (3, .inl (t0)), (0, .inr (.inr 121)), (1, .inl (x1)), (2, .inl (x2))] [] (px_G1, q14) _
          refine px_D_ls [(0, .inr (.inr 121)), (2, .inl (x2)), (4, .inl (q5 125 1)), (5, .inl (q6 125 1))] rfl rfl (List.forall_mem_cons.mpr ⟨rfl, List.forall_mem_cons.mpr ⟨rfl, List.forall_mem_cons.mpr ⟨rfl, List.forall_mem_cons.mpr ⟨rfl, fun _ h => absurd h List.not_mem_nil⟩⟩⟩⟩) ?_
          exact cj_Reader_readLawLine_j60 h
    · have hc4 : ¬ ((x1) = (0)) := of_decide_eq_false hc
      rw [if_neg hc4] at h
      refine px_D_st 2 (ip1 := 31) (ls1 := [(3, .inl (t0)), (0, .inr (.inr 121)), (1, .inl (x1)), (2, .inl (x2))]) (st1 := [.inl (3), .inr (.inr 121)]) (h1 := (px_G1, s)) rfl ?_
      refine px_D_call (as := [.inr (.inr 121), .inl (3)]) (rest := []) rfl rfl rfl rfl ?_
      obtain ⟨q15, hq15, h⟩ := Option.bind_eq_some_iff.mp h
      refine px_D_mono (c_Reader_fail (d := d + 192) hq15) ?_
      rintro _ _ ⟨rfl, rfl⟩
      show px_D sc (d + 193) 50 32 [(3, .inl (t0)), (0, .inr (.inr 121)), (1, .inl (x1)), (2, .inl (x2))] [] (px_G1, q15) _
      cases h
      exact px_D_vret rfl ⟨rfl, rfl⟩
  · have hc3 : (t0) = (0) := Decidable.of_not_not (of_decide_eq_false hc)
    rw [if_pos hc3] at h
    refine px_D_st 2 (ip1 := 25) (ls1 := [(3, .inl (t0)), (0, .inr (.inr 121)), (1, .inl (x1)), (2, .inl (x2))]) (st1 := [.inl (1), .inr (.inr 121)]) (h1 := (px_G1, s)) rfl ?_
    refine px_D_call (as := [.inr (.inr 121), .inl (1)]) (rest := []) rfl rfl rfl rfl ?_
    obtain ⟨q16, hq16, h⟩ := Option.bind_eq_some_iff.mp h
    refine px_D_mono (c_Reader_fail (d := d + 192) hq16) ?_
    rintro _ _ ⟨rfl, rfl⟩
    show px_D sc (d + 193) 50 26 [(3, .inl (t0)), (0, .inr (.inr 121)), (1, .inl (x1)), (2, .inl (x2))] [] (px_G1, q16) _
    cases h
    exact px_D_vret rfl ⟨rfl, rfl⟩
def f_Reader_readLawLine (s : px_Z) (x1 : Int) : Option (px_Z) := if 0 ≤ (s 121 4) ∧ (s 121 4) < 401 then if (s 121 6) = (0) then j_Reader_readLawLine_j20 s x1 (s 122 (s 121 4).toNat) (f_R_within s (s 122 (s 121 4).toNat) 266 268) else (if (s 122 (s 121 4).toNat) = (265) then j_Reader_readLawLine_j20 s x1 (s 122 (s 121 4).toNat) 1 else j_Reader_readLawLine_j20 s x1 (s 122 (s 121 4).toNat) 0) else none
set_option maxHeartbeats 4000000 in
set_option maxRecDepth 100000 in
theorem c_Reader_readLawLine {sc : List Int} {d : Nat} {s : px_Z} {x1 : Int} {out : px_Z} (h : f_Reader_readLawLine s x1 = some out) : px_D sc (d + 193) 50 0 [(0, .inr (.inr 121)), (1, .inl (x1))] [] (px_G1, s) (px_Qv out) := by
  unfold f_Reader_readLawLine at h
  refine px_D_st 4 (ip1 := 4) (ls1 := [(0, .inr (.inr 121)), (1, .inl (x1))]) (st1 := [.inl (s 121 4), .inr (.inr 122)]) (h1 := (px_G1, s)) rfl ?_
  by_cases hc1 : 0 ≤ (s 121 4) ∧ (s 121 4) < 401
  case neg => rw [if_neg hc1] at h; cases h
  rw [if_pos hc1] at h
  refine px_D_iald (k := 117) (n := 401) rfl rfl hc1 ?_
  refine px_D_st 3 (ip1 := 8) (ls1 := [(2, .inl (s 122 (s 121 4).toNat)), (0, .inr (.inr 121)), (1, .inl (x1))]) (st1 := [.inl (s 121 6)]) (h1 := (px_G1, s)) rfl ?_
  refine px_D_ifc rfl (fun hc => ?_) (fun hc => ?_)
  · have hc2 : (s 121 6) = (0) := of_decide_eq_true hc
    rw [if_pos hc2] at h
    refine px_D_st 3 (ip1 := 19) (ls1 := [(2, .inl (s 122 (s 121 4).toNat)), (0, .inr (.inr 121)), (1, .inl (x1))]) (st1 := [.inl (268), .inl (266), .inl (s 122 (s 121 4).toNat)]) (h1 := (px_G1, s)) rfl ?_
    refine px_D_call (as := [.inl (s 122 (s 121 4).toNat), .inl (266), .inl (268)]) (rest := []) rfl rfl rfl rfl ?_
    refine px_D_mono (c_R_within (d := d + 192) rfl) ?_
    rintro _ _ ⟨rfl, rfl⟩
    show px_D sc (d + 193) 50 20 [(2, .inl (s 122 (s 121 4).toNat)), (0, .inr (.inr 121)), (1, .inl (x1))] [.inl (f_R_within s (s 122 (s 121 4).toNat) 266 268)] (px_G1, s) _
    refine px_D_ls [(0, .inr (.inr 121)), (1, .inl (x1)), (2, .inl (s 122 (s 121 4).toNat))] rfl rfl (List.forall_mem_cons.mpr ⟨rfl, List.forall_mem_cons.mpr ⟨rfl, List.forall_mem_cons.mpr ⟨rfl, fun _ h => absurd h List.not_mem_nil⟩⟩⟩) ?_
    exact cj_Reader_readLawLine_j20 h
  · have hc2 : ¬ ((s 121 6) = (0)) := of_decide_eq_false hc
    rw [if_neg hc2] at h
    refine px_D_st 2 (ip1 := 11) (ls1 := [(2, .inl (s 122 (s 121 4).toNat)), (0, .inr (.inr 121)), (1, .inl (x1))]) (st1 := [.inl (265), .inl (s 122 (s 121 4).toNat)]) (h1 := (px_G1, s)) rfl ?_
    refine px_D_icmp rfl (fun hc => ?_) (fun hc => ?_)
    · have hc17 : ¬ ((s 122 (s 121 4).toNat) = (265)) := of_decide_eq_true hc
      rw [if_neg hc17] at h
      refine px_D_st 2 (ip1 := 20) (ls1 := [(2, .inl (s 122 (s 121 4).toNat)), (0, .inr (.inr 121)), (1, .inl (x1))]) (st1 := [.inl (0)]) (h1 := (px_G1, s)) rfl ?_
      refine px_D_ls [(0, .inr (.inr 121)), (1, .inl (x1)), (2, .inl (s 122 (s 121 4).toNat))] rfl rfl (List.forall_mem_cons.mpr ⟨rfl, List.forall_mem_cons.mpr ⟨rfl, List.forall_mem_cons.mpr ⟨rfl, fun _ h => absurd h List.not_mem_nil⟩⟩⟩) ?_
      exact cj_Reader_readLawLine_j20 h
    · have hc17 : (s 122 (s 121 4).toNat) = (265) := Decidable.of_not_not (of_decide_eq_false hc)
      rw [if_pos hc17] at h
      refine px_D_st 2 (ip1 := 20) (ls1 := [(2, .inl (s 122 (s 121 4).toNat)), (0, .inr (.inr 121)), (1, .inl (x1))]) (st1 := [.inl (1)]) (h1 := (px_G1, s)) rfl ?_
      refine px_D_ls [(0, .inr (.inr 121)), (1, .inl (x1)), (2, .inl (s 122 (s 121 4).toNat))] rfl rfl (List.forall_mem_cons.mpr ⟨rfl, List.forall_mem_cons.mpr ⟨rfl, List.forall_mem_cons.mpr ⟨rfl, fun _ h => absurd h List.not_mem_nil⟩⟩⟩) ?_
      exact cj_Reader_readLawLine_j20 h

def l_Reader_readLaw_13  : Nat → px_Z → Int → Option (px_Z)
  | 0, _, _ => none
  | n + 1, s, x2 => if (16) < (x2) then some s else (f_Reader_goesOn s ).bind (fun q3 => if (q3) = (0) then some s else (if (x2) = (16) then (f_Reader_readLawLine s 1).bind (fun q7 => l_Reader_readLaw_13  n q7 (px_wr (x2 + 1))) else (f_Reader_readLawLine s 0).bind (fun q6 => l_Reader_readLaw_13  n q6 (px_wr (x2 + 1)))))
set_option maxHeartbeats 4000000 in
set_option maxRecDepth 100000 in
theorem cl_Reader_readLaw_13 {sc : List Int} {d : Nat}  : ∀ (n : Nat) (s : px_Z) (x2 : Int) (out : px_Z), l_Reader_readLaw_13  n s x2 = some out → px_D sc (d + 194) 49 13 [(0, .inr (.inr 121)), (2, .inl (x2))] [] (px_G1, s) (px_Qv out) := by
  intro n
  induction n with
  | zero => intro s x2 out h; cases h
  | succ n ih =>
    intro s x2 out h
    rw [l_Reader_readLaw_13] at h
    refine px_D_st 2 (ip1 := 15) (ls1 := [(0, .inr (.inr 121)), (2, .inl (x2))]) (st1 := [.inl (16), .inl (x2)]) (h1 := (px_G1, s)) rfl ?_
    refine px_D_icmp rfl (fun hc => ?_) (fun hc => ?_)
    · have hc2 : (16) < (x2) := of_decide_eq_true hc
      rw [if_pos hc2] at h
      cases h
      exact px_D_vret rfl ⟨rfl, rfl⟩
    · have hc2 : ¬ ((16) < (x2)) := of_decide_eq_false hc
      rw [if_neg hc2] at h
      refine px_D_st 1 (ip1 := 17) (ls1 := [(0, .inr (.inr 121)), (2, .inl (x2))]) (st1 := [.inr (.inr 121)]) (h1 := (px_G1, s)) rfl ?_
      refine px_D_call (as := [.inr (.inr 121)]) (rest := []) rfl rfl rfl rfl ?_
      obtain ⟨q3, hq3, h⟩ := Option.bind_eq_some_iff.mp h
      refine px_D_mono (c_Reader_goesOn (d := d + 193) hq3) ?_
      rintro _ _ ⟨rfl, rfl⟩
      show px_D sc (d + 194) 49 18 [(0, .inr (.inr 121)), (2, .inl (x2))] [.inl (q3)] (px_G1, s) _
      refine px_D_ifc rfl (fun hc => ?_) (fun hc => ?_)
      · have hc4 : (q3) = (0) := of_decide_eq_true hc
        rw [if_pos hc4] at h
        cases h
        exact px_D_vret rfl ⟨rfl, rfl⟩
      · have hc4 : ¬ ((q3) = (0)) := of_decide_eq_false hc
        rw [if_neg hc4] at h
        refine px_D_st 3 (ip1 := 22) (ls1 := [(0, .inr (.inr 121)), (2, .inl (x2))]) (st1 := [.inl (16), .inl (x2), .inr (.inr 121)]) (h1 := (px_G1, s)) rfl ?_
        refine px_D_icmp rfl (fun hc => ?_) (fun hc => ?_)
        · have hc5 : ¬ ((x2) = (16)) := of_decide_eq_true hc
          rw [if_neg hc5] at h
          refine px_D_st 1 (ip1 := 26) (ls1 := [(0, .inr (.inr 121)), (2, .inl (x2))]) (st1 := [.inl (0), .inr (.inr 121)]) (h1 := (px_G1, s)) rfl ?_
          refine px_D_call (as := [.inr (.inr 121), .inl (0)]) (rest := []) rfl rfl rfl rfl ?_
          obtain ⟨q6, hq6, h⟩ := Option.bind_eq_some_iff.mp h
          refine px_D_mono (c_Reader_readLawLine (d := d + 0) hq6) ?_
          rintro _ _ ⟨rfl, rfl⟩
          show px_D sc (d + 194) 49 27 [(0, .inr (.inr 121)), (2, .inl (x2))] [] (px_G1, q6) _
          refine px_D_st 2 (ip1 := 13) (ls1 := [(2, .inl (px_wr (x2 + 1))), (0, .inr (.inr 121))]) (st1 := []) (h1 := (px_G1, q6)) rfl ?_
          refine px_D_ls [(0, .inr (.inr 121)), (2, .inl (px_wr (x2 + 1)))] rfl rfl (List.forall_mem_cons.mpr ⟨rfl, List.forall_mem_cons.mpr ⟨rfl, fun _ h => absurd h List.not_mem_nil⟩⟩) ?_
          exact ih _ _ _ h
        · have hc5 : (x2) = (16) := Decidable.of_not_not (of_decide_eq_false hc)
          rw [if_pos hc5] at h
          refine px_D_st 2 (ip1 := 26) (ls1 := [(0, .inr (.inr 121)), (2, .inl (x2))]) (st1 := [.inl (1), .inr (.inr 121)]) (h1 := (px_G1, s)) rfl ?_
          refine px_D_call (as := [.inr (.inr 121), .inl (1)]) (rest := []) rfl rfl rfl rfl ?_
          obtain ⟨q7, hq7, h⟩ := Option.bind_eq_some_iff.mp h
          refine px_D_mono (c_Reader_readLawLine (d := d + 0) hq7) ?_
          rintro _ _ ⟨rfl, rfl⟩
          show px_D sc (d + 194) 49 27 [(0, .inr (.inr 121)), (2, .inl (x2))] [] (px_G1, q7) _
          refine px_D_st 2 (ip1 := 13) (ls1 := [(2, .inl (px_wr (x2 + 1))), (0, .inr (.inr 121))]) (st1 := []) (h1 := (px_G1, q7)) rfl ?_
          refine px_D_ls [(0, .inr (.inr 121)), (2, .inl (px_wr (x2 + 1)))] rfl rfl (List.forall_mem_cons.mpr ⟨rfl, List.forall_mem_cons.mpr ⟨rfl, fun _ h => absurd h List.not_mem_nil⟩⟩) ?_
          exact ih _ _ _ h
def f_Reader_readLaw (s : px_Z) (x1 : Int) : Option (px_Z) := if (x1) = 0 ∨ (x1) = 1 then l_Reader_readLaw_13  px_big (px_up (px_up (px_up s 121 6 x1) 125 0 0) 125 1 0) 0 else none
set_option maxHeartbeats 4000000 in
set_option maxRecDepth 100000 in
theorem c_Reader_readLaw {sc : List Int} {d : Nat} {s : px_Z} {x1 : Int} {out : px_Z} (h : f_Reader_readLaw s x1 = some out) : px_D sc (d + 194) 49 0 [(0, .inr (.inr 121)), (1, .inl (x1))] [] (px_G1, s) (px_Qv out) := by
  unfold f_Reader_readLaw at h
  refine px_D_st 2 (ip1 := 2) (ls1 := [(0, .inr (.inr 121)), (1, .inl (x1))]) (st1 := [.inl (x1), .inr (.inr 121)]) (h1 := (px_G1, s)) rfl ?_
  by_cases hc1 : (x1) = 0 ∨ (x1) = 1
  case neg => rw [if_neg hc1] at h; cases h
  rw [if_pos hc1] at h
  refine px_D_putz (k := 116) rfl rfl rfl rfl hc1 ?_
  refine px_D_st 10 (ip1 := 13) (ls1 := [(2, .inl (0)), (0, .inr (.inr 121)), (1, .inl (x1))]) (st1 := []) (h1 := (px_G1, px_up (px_up (px_up s 121 6 x1) 125 0 0) 125 1 0)) rfl ?_
  refine px_D_ls [(0, .inr (.inr 121)), (2, .inl (0))] rfl rfl (List.forall_mem_cons.mpr ⟨rfl, List.forall_mem_cons.mpr ⟨rfl, fun _ h => absurd h List.not_mem_nil⟩⟩) ?_
  refine cl_Reader_readLaw_13  px_big _ _ _ h

def l_Arrays_fill_2_5  : Nat → px_Z → Int → Int → Int → Option (px_Z)
  | 0, _, _, _, _ => none
  | n + 1, s, x1, x2, x3 => if (x3) ≤ (x2) then some s else (if 0 ≤ (x2) ∧ (x2) < 8 then l_Arrays_fill_2_5  n (px_up s 142 x2.toNat x1) x1 (px_wr (x2 + 1)) x3 else none)
set_option maxHeartbeats 4000000 in
set_option maxRecDepth 100000 in
theorem cl_Arrays_fill_2_5 {sc : List Int} {d : Nat}  : ∀ (n : Nat) (s : px_Z) (x1 : Int) (x2 : Int) (x3 : Int) (out : px_Z), l_Arrays_fill_2_5  n s x1 x2 x3 = some out → px_D sc (d + 0) 284 5 [(0, .inr (.inr 142)), (1, .inl (x1)), (2, .inl (x2)), (3, .inl (x3))] [] (px_G1, s) (px_Qv out) := by
  intro n
  induction n with
  | zero => intro s x1 x2 x3 out h; cases h
  | succ n ih =>
    intro s x1 x2 x3 out h
    rw [l_Arrays_fill_2_5] at h
    refine px_D_st 2 (ip1 := 7) (ls1 := [(0, .inr (.inr 142)), (1, .inl (x1)), (2, .inl (x2)), (3, .inl (x3))]) (st1 := [.inl (x3), .inl (x2)]) (h1 := (px_G1, s)) rfl ?_
    refine px_D_icmp rfl (fun hc => ?_) (fun hc => ?_)
    · have hc1 : (x3) ≤ (x2) := of_decide_eq_true hc
      rw [if_pos hc1] at h
      cases h
      exact px_D_vret rfl ⟨rfl, rfl⟩
    · have hc1 : ¬ ((x3) ≤ (x2)) := of_decide_eq_false hc
      rw [if_neg hc1] at h
      refine px_D_st 3 (ip1 := 11) (ls1 := [(0, .inr (.inr 142)), (1, .inl (x1)), (2, .inl (x2)), (3, .inl (x3))]) (st1 := [.inl (x1), .inl (x2), .inr (.inr 142)]) (h1 := (px_G1, s)) rfl ?_
      by_cases hc2 : 0 ≤ (x2) ∧ (x2) < 8
      case neg => rw [if_neg hc2] at h; cases h
      rw [if_pos hc2] at h
      refine px_D_iast (k := 137) (n := 8) rfl rfl hc2 ?_
      refine px_D_st 2 (ip1 := 5) (ls1 := [(2, .inl (px_wr (x2 + 1))), (0, .inr (.inr 142)), (1, .inl (x1)), (3, .inl (x3))]) (st1 := []) (h1 := (px_G1, px_up s 142 x2.toNat x1)) rfl ?_
      refine px_D_ls [(0, .inr (.inr 142)), (1, .inl (x1)), (2, .inl (px_wr (x2 + 1))), (3, .inl (x3))] rfl rfl (List.forall_mem_cons.mpr ⟨rfl, List.forall_mem_cons.mpr ⟨rfl, List.forall_mem_cons.mpr ⟨rfl, List.forall_mem_cons.mpr ⟨rfl, fun _ h => absurd h List.not_mem_nil⟩⟩⟩⟩) ?_
      exact ih _ _ _ _ _ h
def f_Arrays_fill_2 (s : px_Z) (x1 : Int) : Option (px_Z) := l_Arrays_fill_2_5  px_big s x1 0 8
set_option maxHeartbeats 4000000 in
set_option maxRecDepth 100000 in
theorem c_Arrays_fill_2 {sc : List Int} {d : Nat} {s : px_Z} {x1 : Int} {out : px_Z} (h : f_Arrays_fill_2 s x1 = some out) : px_D sc (d + 0) 284 0 [(0, .inr (.inr 142)), (1, .inl (x1))] [] (px_G1, s) (px_Qv out) := by
  unfold f_Arrays_fill_2 at h
  refine px_D_st 5 (ip1 := 5) (ls1 := [(3, .inl (8)), (2, .inl (0)), (0, .inr (.inr 142)), (1, .inl (x1))]) (st1 := []) (h1 := (px_G1, s)) rfl ?_
  refine px_D_ls [(0, .inr (.inr 142)), (1, .inl (x1)), (2, .inl (0)), (3, .inl (8))] rfl rfl (List.forall_mem_cons.mpr ⟨rfl, List.forall_mem_cons.mpr ⟨rfl, List.forall_mem_cons.mpr ⟨rfl, List.forall_mem_cons.mpr ⟨rfl, fun _ h => absurd h List.not_mem_nil⟩⟩⟩⟩) ?_
  refine cl_Arrays_fill_2_5  px_big _ _ _ _ _ h

def l_Reader_readAfterThings_4  : Nat → px_Z → Int → Int → Int → Option (px_Z)
  | 0, _, _, _, _ => none
  | n + 1, s, x1, x2, x3 => if (400) ≤ (x3) then some s else (if (x2) = (0) then some s else (if (s 121 7) = (0) then (if 0 ≤ (s 121 4) ∧ (s 121 4) < 401 then if (s 122 (s 121 4).toNat) = (1) then (if 0 ≤ (s 121 4) ∧ (s 121 4) < 401 then if (s 123 (s 121 4).toNat) = (x1) then (f_Reader_fail s 2).bind (fun q24 => (f_Reader_numberWithin q24 0 (px_wr ((q24 121 5) - 1))).bind (fun q25 => if (q25.2 121 7) = (0) then (if 0 ≤ (x1) ∧ (x1) < 8 then if 0 ≤ (x1) ∧ (x1) < 8 then if 0 ≤ ((px_up q25.2 142 x1.toNat (px_or ((q25.2 142 x1.toNat)) ((px_shl (1) (q25.1))))) 121 4) ∧ ((px_up q25.2 142 x1.toNat (px_or ((q25.2 142 x1.toNat)) ((px_shl (1) (q25.1))))) 121 4) < 401 then if ((px_up q25.2 142 x1.toNat (px_or ((q25.2 142 x1.toNat)) ((px_shl (1) (q25.1))))) 122 ((px_up q25.2 142 x1.toNat (px_or ((q25.2 142 x1.toNat)) ((px_shl (1) (q25.1))))) 121 4).toNat) = (1) then l_Reader_readAfterThings_4  n (px_up q25.2 142 x1.toNat (px_or ((q25.2 142 x1.toNat)) ((px_shl (1) (q25.1))))) x1 1 (px_wr (x3 + 1)) else l_Reader_readAfterThings_4  n (px_up q25.2 142 x1.toNat (px_or ((q25.2 142 x1.toNat)) ((px_shl (1) (q25.1))))) x1 0 (px_wr (x3 + 1)) else none else none else none) else (if 0 ≤ (q25.2 121 4) ∧ (q25.2 121 4) < 401 then if (q25.2 122 (q25.2 121 4).toNat) = (1) then l_Reader_readAfterThings_4  n q25.2 x1 1 (px_wr (x3 + 1)) else l_Reader_readAfterThings_4  n q25.2 x1 0 (px_wr (x3 + 1)) else none))) else (f_Reader_numberWithin s 0 (px_wr ((s 121 5) - 1))).bind (fun q16 => if (q16.2 121 7) = (0) then (if 0 ≤ (x1) ∧ (x1) < 8 then if 0 ≤ (x1) ∧ (x1) < 8 then if 0 ≤ ((px_up q16.2 142 x1.toNat (px_or ((q16.2 142 x1.toNat)) ((px_shl (1) (q16.1))))) 121 4) ∧ ((px_up q16.2 142 x1.toNat (px_or ((q16.2 142 x1.toNat)) ((px_shl (1) (q16.1))))) 121 4) < 401 then if ((px_up q16.2 142 x1.toNat (px_or ((q16.2 142 x1.toNat)) ((px_shl (1) (q16.1))))) 122 ((px_up q16.2 142 x1.toNat (px_or ((q16.2 142 x1.toNat)) ((px_shl (1) (q16.1))))) 121 4).toNat) = (1) then l_Reader_readAfterThings_4  n (px_up q16.2 142 x1.toNat (px_or ((q16.2 142 x1.toNat)) ((px_shl (1) (q16.1))))) x1 1 (px_wr (x3 + 1)) else l_Reader_readAfterThings_4  n (px_up q16.2 142 x1.toNat (px_or ((q16.2 142 x1.toNat)) ((px_shl (1) (q16.1))))) x1 0 (px_wr (x3 + 1)) else none else none else none) else (if 0 ≤ (q16.2 121 4) ∧ (q16.2 121 4) < 401 then if (q16.2 122 (q16.2 121 4).toNat) = (1) then l_Reader_readAfterThings_4  n q16.2 x1 1 (px_wr (x3 + 1)) else l_Reader_readAfterThings_4  n q16.2 x1 0 (px_wr (x3 + 1)) else none)) else none) else (f_Reader_numberWithin s 0 (px_wr ((s 121 5) - 1))).bind (fun q6 => if (q6.2 121 7) = (0) then (if 0 ≤ (x1) ∧ (x1) < 8 then if 0 ≤ (x1) ∧ (x1) < 8 then if 0 ≤ ((px_up q6.2 142 x1.toNat (px_or ((q6.2 142 x1.toNat)) ((px_shl (1) (q6.1))))) 121 4) ∧ ((px_up q6.2 142 x1.toNat (px_or ((q6.2 142 x1.toNat)) ((px_shl (1) (q6.1))))) 121 4) < 401 then if ((px_up q6.2 142 x1.toNat (px_or ((q6.2 142 x1.toNat)) ((px_shl (1) (q6.1))))) 122 ((px_up q6.2 142 x1.toNat (px_or ((q6.2 142 x1.toNat)) ((px_shl (1) (q6.1))))) 121 4).toNat) = (1) then l_Reader_readAfterThings_4  n (px_up q6.2 142 x1.toNat (px_or ((q6.2 142 x1.toNat)) ((px_shl (1) (q6.1))))) x1 1 (px_wr (x3 + 1)) else l_Reader_readAfterThings_4  n (px_up q6.2 142 x1.toNat (px_or ((q6.2 142 x1.toNat)) ((px_shl (1) (q6.1))))) x1 0 (px_wr (x3 + 1)) else none else none else none) else (if 0 ≤ (q6.2 121 4) ∧ (q6.2 121 4) < 401 then if (q6.2 122 (q6.2 121 4).toNat) = (1) then l_Reader_readAfterThings_4  n q6.2 x1 1 (px_wr (x3 + 1)) else l_Reader_readAfterThings_4  n q6.2 x1 0 (px_wr (x3 + 1)) else none)) else none) else some s))
set_option maxHeartbeats 4000000 in
set_option maxRecDepth 100000 in
theorem cl_Reader_readAfterThings_4 {sc : List Int} {d : Nat}  : ∀ (n : Nat) (s : px_Z) (x1 : Int) (x2 : Int) (x3 : Int) (out : px_Z), l_Reader_readAfterThings_4  n s x1 x2 x3 = some out → px_D sc (d + 2) 58 4 [(0, .inr (.inr 121)), (1, .inl (x1)), (2, .inl (x2)), (3, .inl (x3))] [] (px_G1, s) (px_Qv out) := by
  intro n
  induction n with
  | zero => intro s x1 x2 x3 out h; cases h
  | succ n ih =>
    intro s x1 x2 x3 out h
    rw [l_Reader_readAfterThings_4] at h
    refine px_D_st 2 (ip1 := 6) (ls1 := [(0, .inr (.inr 121)), (1, .inl (x1)), (2, .inl (x2)), (3, .inl (x3))]) (st1 := [.inl (400), .inl (x3)]) (h1 := (px_G1, s)) rfl ?_
    refine px_D_icmp rfl (fun hc => ?_) (fun hc => ?_)
    · have hc1 : (400) ≤ (x3) := of_decide_eq_true hc
      rw [if_pos hc1] at h
      cases h
      exact px_D_vret rfl ⟨rfl, rfl⟩
    · have hc1 : ¬ ((400) ≤ (x3)) := of_decide_eq_false hc
      rw [if_neg hc1] at h
      refine px_D_st 1 (ip1 := 8) (ls1 := [(0, .inr (.inr 121)), (1, .inl (x1)), (2, .inl (x2)), (3, .inl (x3))]) (st1 := [.inl (x2)]) (h1 := (px_G1, s)) rfl ?_
      refine px_D_ifc rfl (fun hc => ?_) (fun hc => ?_)
      · have hc2 : (x2) = (0) := of_decide_eq_true hc
        rw [if_pos hc2] at h
        cases h
        exact px_D_vret rfl ⟨rfl, rfl⟩
      · have hc2 : ¬ ((x2) = (0)) := of_decide_eq_false hc
        rw [if_neg hc2] at h
        refine px_D_st 2 (ip1 := 11) (ls1 := [(0, .inr (.inr 121)), (1, .inl (x1)), (2, .inl (x2)), (3, .inl (x3))]) (st1 := [.inl (s 121 7)]) (h1 := (px_G1, s)) rfl ?_
        refine px_D_ifc rfl (fun hc => ?_) (fun hc => ?_)
        · have hc3 : ¬ ((s 121 7) = (0)) := of_decide_eq_true hc
          rw [if_neg hc3] at h
          cases h
          exact px_D_vret rfl ⟨rfl, rfl⟩
        · have hc3 : (s 121 7) = (0) := Decidable.of_not_not (of_decide_eq_false hc)
          rw [if_pos hc3] at h
          refine px_D_st 4 (ip1 := 16) (ls1 := [(0, .inr (.inr 121)), (1, .inl (x1)), (2, .inl (x2)), (3, .inl (x3))]) (st1 := [.inl (s 121 4), .inr (.inr 122)]) (h1 := (px_G1, s)) rfl ?_
          by_cases hc4 : 0 ≤ (s 121 4) ∧ (s 121 4) < 401
          case neg => rw [if_neg hc4] at h; cases h
          rw [if_pos hc4] at h
          refine px_D_iald (k := 117) (n := 401) rfl rfl hc4 ?_
          refine px_D_st 1 (ip1 := 18) (ls1 := [(0, .inr (.inr 121)), (1, .inl (x1)), (2, .inl (x2)), (3, .inl (x3))]) (st1 := [.inl (1), .inl (s 122 (s 121 4).toNat)]) (h1 := (px_G1, s)) rfl ?_
          refine px_D_icmp rfl (fun hc => ?_) (fun hc => ?_)
          · have hc5 : ¬ ((s 122 (s 121 4).toNat) = (1)) := of_decide_eq_true hc
            rw [if_neg hc5] at h
            refine px_D_st 6 (ip1 := 35) (ls1 := [(0, .inr (.inr 121)), (1, .inl (x1)), (2, .inl (x2)), (3, .inl (x3))]) (st1 := [.inl (px_wr ((s 121 5) - 1)), .inl (0), .inr (.inr 121)]) (h1 := (px_G1, s)) rfl ?_
            refine px_D_call (as := [.inr (.inr 121), .inl (0), .inl (px_wr ((s 121 5) - 1))]) (rest := []) rfl rfl rfl rfl ?_
            obtain ⟨q6, hq6, h⟩ := Option.bind_eq_some_iff.mp h
            refine px_D_mono (c_Reader_numberWithin (d := d + 0) hq6) ?_
            rintro _ _ ⟨rfl, rfl⟩
            show px_D sc (d + 2) 58 36 [(0, .inr (.inr 121)), (1, .inl (x1)), (2, .inl (x2)), (3, .inl (x3))] [.inl (q6.1)] (px_G1, q6.2) _
            refine px_D_st 3 (ip1 := 39) (ls1 := [(4, .inl (q6.1)), (0, .inr (.inr 121)), (1, .inl (x1)), (2, .inl (x2)), (3, .inl (x3))]) (st1 := [.inl (q6.2 121 7)]) (h1 := (px_G1, q6.2)) rfl ?_
            refine px_D_ifc rfl (fun hc => ?_) (fun hc => ?_)
            · have hc7 : ¬ ((q6.2 121 7) = (0)) := of_decide_eq_true hc
              rw [if_neg hc7] at h
              refine px_D_st 4 (ip1 := 54) (ls1 := [(4, .inl (q6.1)), (0, .inr (.inr 121)), (1, .inl (x1)), (2, .inl (x2)), (3, .inl (x3))]) (st1 := [.inl (q6.2 121 4), .inr (.inr 122)]) (h1 := (px_G1, q6.2)) rfl ?_
              by_cases hc8 : 0 ≤ (q6.2 121 4) ∧ (q6.2 121 4) < 401
              case neg => rw [if_neg hc8] at h; cases h
              rw [if_pos hc8] at h
              refine px_D_iald (k := 117) (n := 401) rfl rfl hc8 ?_
              refine px_D_st 1 (ip1 := 56) (ls1 := [(4, .inl (q6.1)), (0, .inr (.inr 121)), (1, .inl (x1)), (2, .inl (x2)), (3, .inl (x3))]) (st1 := [.inl (1), .inl (q6.2 122 (q6.2 121 4).toNat)]) (h1 := (px_G1, q6.2)) rfl ?_
              refine px_D_icmp rfl (fun hc => ?_) (fun hc => ?_)
              · have hc9 : ¬ ((q6.2 122 (q6.2 121 4).toNat) = (1)) := of_decide_eq_true hc
                rw [if_neg hc9] at h
                refine px_D_st 4 (ip1 := 4) (ls1 := [(3, .inl (px_wr (x3 + 1))), (2, .inl (0)), (4, .inl (q6.1)), (0, .inr (.inr 121)), (1, .inl (x1))]) (st1 := []) (h1 := (px_G1, q6.2)) rfl ?_
                refine px_D_ls [(0, .inr (.inr 121)), (1, .inl (x1)), (2, .inl (0)), (3, .inl (px_wr (x3 + 1)))] rfl rfl (List.forall_mem_cons.mpr ⟨rfl, List.forall_mem_cons.mpr ⟨rfl, List.forall_mem_cons.mpr ⟨rfl, List.forall_mem_cons.mpr ⟨rfl, fun _ h => absurd h List.not_mem_nil⟩⟩⟩⟩) ?_
                exact ih _ _ _ _ _ h
              · have hc9 : (q6.2 122 (q6.2 121 4).toNat) = (1) := Decidable.of_not_not (of_decide_eq_false hc)
                rw [if_pos hc9] at h
                refine px_D_st 5 (ip1 := 4) (ls1 := [(3, .inl (px_wr (x3 + 1))), (2, .inl (1)), (4, .inl (q6.1)), (0, .inr (.inr 121)), (1, .inl (x1))]) (st1 := []) (h1 := (px_G1, q6.2)) rfl ?_
                refine px_D_ls [(0, .inr (.inr 121)), (1, .inl (x1)), (2, .inl (1)), (3, .inl (px_wr (x3 + 1)))] rfl rfl (List.forall_mem_cons.mpr ⟨rfl, List.forall_mem_cons.mpr ⟨rfl, List.forall_mem_cons.mpr ⟨rfl, List.forall_mem_cons.mpr ⟨rfl, fun _ h => absurd h List.not_mem_nil⟩⟩⟩⟩) ?_
                exact ih _ _ _ _ _ h
            · have hc7 : (q6.2 121 7) = (0) := Decidable.of_not_not (of_decide_eq_false hc)
              rw [if_pos hc7] at h
              refine px_D_st 4 (ip1 := 44) (ls1 := [(4, .inl (q6.1)), (0, .inr (.inr 121)), (1, .inl (x1)), (2, .inl (x2)), (3, .inl (x3))]) (st1 := [.inl (x1), .inr (.inr 142), .inl (x1), .inr (.inr 142)]) (h1 := (px_G1, q6.2)) rfl ?_
              by_cases hc10 : 0 ≤ (x1) ∧ (x1) < 8
              case neg => rw [if_neg hc10] at h; cases h
              rw [if_pos hc10] at h
              refine px_D_iald (k := 137) (n := 8) rfl rfl hc10 ?_
              refine px_D_st 4 (ip1 := 49) (ls1 := [(4, .inl (q6.1)), (0, .inr (.inr 121)), (1, .inl (x1)), (2, .inl (x2)), (3, .inl (x3))]) (st1 := [.inl (px_or ((q6.2 142 x1.toNat)) ((px_shl (1) (q6.1)))), .inl (x1), .inr (.inr 142)]) (h1 := (px_G1, q6.2)) rfl ?_
              by_cases hc11 : 0 ≤ (x1) ∧ (x1) < 8
              case neg => rw [if_neg hc11] at h; cases h
              rw [if_pos hc11] at h
              refine px_D_iast (k := 137) (n := 8) rfl rfl hc11 ?_
              refine px_D_st 4 (ip1 := 54) (ls1 := [(4, .inl (q6.1)), (0, .inr (.inr 121)), (1, .inl (x1)), (2, .inl (x2)), (3, .inl (x3))]) (st1 := [.inl ((px_up q6.2 142 x1.toNat (px_or ((q6.2 142 x1.toNat)) ((px_shl (1) (q6.1))))) 121 4), .inr (.inr 122)]) (h1 := (px_G1, px_up q6.2 142 x1.toNat (px_or ((q6.2 142 x1.toNat)) ((px_shl (1) (q6.1)))))) rfl ?_
              by_cases hc12 : 0 ≤ ((px_up q6.2 142 x1.toNat (px_or ((q6.2 142 x1.toNat)) ((px_shl (1) (q6.1))))) 121 4) ∧ ((px_up q6.2 142 x1.toNat (px_or ((q6.2 142 x1.toNat)) ((px_shl (1) (q6.1))))) 121 4) < 401
              case neg => rw [if_neg hc12] at h; cases h
              rw [if_pos hc12] at h
              refine px_D_iald (k := 117) (n := 401) rfl rfl hc12 ?_
              refine px_D_st 1 (ip1 := 56) (ls1 := [(4, .inl (q6.1)), (0, .inr (.inr 121)), (1, .inl (x1)), (2, .inl (x2)), (3, .inl (x3))]) (st1 := [.inl (1), .inl ((px_up q6.2 142 x1.toNat (px_or ((q6.2 142 x1.toNat)) ((px_shl (1) (q6.1))))) 122 ((px_up q6.2 142 x1.toNat (px_or ((q6.2 142 x1.toNat)) ((px_shl (1) (q6.1))))) 121 4).toNat)]) (h1 := (px_G1, px_up q6.2 142 x1.toNat (px_or ((q6.2 142 x1.toNat)) ((px_shl (1) (q6.1)))))) rfl ?_
              refine px_D_icmp rfl (fun hc => ?_) (fun hc => ?_)
              · have hc13 : ¬ (((px_up q6.2 142 x1.toNat (px_or ((q6.2 142 x1.toNat)) ((px_shl (1) (q6.1))))) 122 ((px_up q6.2 142 x1.toNat (px_or ((q6.2 142 x1.toNat)) ((px_shl (1) (q6.1))))) 121 4).toNat) = (1)) := of_decide_eq_true hc
                rw [if_neg hc13] at h
                refine px_D_st 4 (ip1 := 4) (ls1 := [(3, .inl (px_wr (x3 + 1))), (2, .inl (0)), (4, .inl (q6.1)), (0, .inr (.inr 121)), (1, .inl (x1))]) (st1 := []) (h1 := (px_G1, px_up q6.2 142 x1.toNat (px_or ((q6.2 142 x1.toNat)) ((px_shl (1) (q6.1)))))) rfl ?_
                refine px_D_ls [(0, .inr (.inr 121)), (1, .inl (x1)), (2, .inl (0)), (3, .inl (px_wr (x3 + 1)))] rfl rfl (List.forall_mem_cons.mpr ⟨rfl, List.forall_mem_cons.mpr ⟨rfl, List.forall_mem_cons.mpr ⟨rfl, List.forall_mem_cons.mpr ⟨rfl, fun _ h => absurd h List.not_mem_nil⟩⟩⟩⟩) ?_
                exact ih _ _ _ _ _ h
              · have hc13 : ((px_up q6.2 142 x1.toNat (px_or ((q6.2 142 x1.toNat)) ((px_shl (1) (q6.1))))) 122 ((px_up q6.2 142 x1.toNat (px_or ((q6.2 142 x1.toNat)) ((px_shl (1) (q6.1))))) 121 4).toNat) = (1) := Decidable.of_not_not (of_decide_eq_false hc)
                rw [if_pos hc13] at h
                refine px_D_st 5 (ip1 := 4) (ls1 := [(3, .inl (px_wr (x3 + 1))), (2, .inl (1)), (4, .inl (q6.1)), (0, .inr (.inr 121)), (1, .inl (x1))]) (st1 := []) (h1 := (px_G1, px_up q6.2 142 x1.toNat (px_or ((q6.2 142 x1.toNat)) ((px_shl (1) (q6.1)))))) rfl ?_
                refine px_D_ls [(0, .inr (.inr 121)), (1, .inl (x1)), (2, .inl (1)), (3, .inl (px_wr (x3 + 1)))] rfl rfl (List.forall_mem_cons.mpr ⟨rfl, List.forall_mem_cons.mpr ⟨rfl, List.forall_mem_cons.mpr ⟨rfl, List.forall_mem_cons.mpr ⟨rfl, fun _ h => absurd h List.not_mem_nil⟩⟩⟩⟩) ?_
                exact ih _ _ _ _ _ h
          · have hc5 : (s 122 (s 121 4).toNat) = (1) := Decidable.of_not_not (of_decide_eq_false hc)
            rw [if_pos hc5] at h
            refine px_D_st 4 (ip1 := 23) (ls1 := [(0, .inr (.inr 121)), (1, .inl (x1)), (2, .inl (x2)), (3, .inl (x3))]) (st1 := [.inl (s 121 4), .inr (.inr 123)]) (h1 := (px_G1, s)) rfl ?_
            by_cases hc14 : 0 ≤ (s 121 4) ∧ (s 121 4) < 401
            case neg => rw [if_neg hc14] at h; cases h
            rw [if_pos hc14] at h
            refine px_D_iald (k := 118) (n := 401) rfl rfl hc14 ?_
            refine px_D_st 1 (ip1 := 25) (ls1 := [(0, .inr (.inr 121)), (1, .inl (x1)), (2, .inl (x2)), (3, .inl (x3))]) (st1 := [.inl (x1), .inl (s 123 (s 121 4).toNat)]) (h1 := (px_G1, s)) rfl ?_
            refine px_D_icmp rfl (fun hc => ?_) (fun hc => ?_)
            · have hc15 : ¬ ((s 123 (s 121 4).toNat) = (x1)) := of_decide_eq_true hc
              rw [if_neg hc15] at h
              refine px_D_st 6 (ip1 := 35) (ls1 := [(0, .inr (.inr 121)), (1, .inl (x1)), (2, .inl (x2)), (3, .inl (x3))]) (st1 := [.inl (px_wr ((s 121 5) - 1)), .inl (0), .inr (.inr 121)]) (h1 := (px_G1, s)) rfl ?_
              refine px_D_call (as := [.inr (.inr 121), .inl (0), .inl (px_wr ((s 121 5) - 1))]) (rest := []) rfl rfl rfl rfl ?_
              obtain ⟨q16, hq16, h⟩ := Option.bind_eq_some_iff.mp h
              refine px_D_mono (c_Reader_numberWithin (d := d + 0) hq16) ?_
              rintro _ _ ⟨rfl, rfl⟩
              show px_D sc (d + 2) 58 36 [(0, .inr (.inr 121)), (1, .inl (x1)), (2, .inl (x2)), (3, .inl (x3))] [.inl (q16.1)] (px_G1, q16.2) _
              refine px_D_st 3 (ip1 := 39) (ls1 := [(4, .inl (q16.1)), (0, .inr (.inr 121)), (1, .inl (x1)), (2, .inl (x2)), (3, .inl (x3))]) (st1 := [.inl (q16.2 121 7)]) (h1 := (px_G1, q16.2)) rfl ?_
              refine px_D_ifc rfl (fun hc => ?_) (fun hc => ?_)
              · have hc17 : ¬ ((q16.2 121 7) = (0)) := of_decide_eq_true hc
                rw [if_neg hc17] at h
                refine px_D_st 4 (ip1 := 54) (ls1 := [(4, .inl (q16.1)), (0, .inr (.inr 121)), (1, .inl (x1)), (2, .inl (x2)), (3, .inl (x3))]) (st1 := [.inl (q16.2 121 4), .inr (.inr 122)]) (h1 := (px_G1, q16.2)) rfl ?_
                by_cases hc18 : 0 ≤ (q16.2 121 4) ∧ (q16.2 121 4) < 401
                case neg => rw [if_neg hc18] at h; cases h
                rw [if_pos hc18] at h
                refine px_D_iald (k := 117) (n := 401) rfl rfl hc18 ?_
                refine px_D_st 1 (ip1 := 56) (ls1 := [(4, .inl (q16.1)), (0, .inr (.inr 121)), (1, .inl (x1)), (2, .inl (x2)), (3, .inl (x3))]) (st1 := [.inl (1), .inl (q16.2 122 (q16.2 121 4).toNat)]) (h1 := (px_G1, q16.2)) rfl ?_
                refine px_D_icmp rfl (fun hc => ?_) (fun hc => ?_)
                · have hc19 : ¬ ((q16.2 122 (q16.2 121 4).toNat) = (1)) := of_decide_eq_true hc
                  rw [if_neg hc19] at h
                  refine px_D_st 4 (ip1 := 4) (ls1 := [(3, .inl (px_wr (x3 + 1))), (2, .inl (0)), (4, .inl (q16.1)), (0, .inr (.inr 121)), (1, .inl (x1))]) (st1 := []) (h1 := (px_G1, q16.2)) rfl ?_
                  refine px_D_ls [(0, .inr (.inr 121)), (1, .inl (x1)), (2, .inl (0)), (3, .inl (px_wr (x3 + 1)))] rfl rfl (List.forall_mem_cons.mpr ⟨rfl, List.forall_mem_cons.mpr ⟨rfl, List.forall_mem_cons.mpr ⟨rfl, List.forall_mem_cons.mpr ⟨rfl, fun _ h => absurd h List.not_mem_nil⟩⟩⟩⟩) ?_
                  exact ih _ _ _ _ _ h
                · have hc19 : (q16.2 122 (q16.2 121 4).toNat) = (1) := Decidable.of_not_not (of_decide_eq_false hc)
                  rw [if_pos hc19] at h
                  refine px_D_st 5 (ip1 := 4) (ls1 := [(3, .inl (px_wr (x3 + 1))), (2, .inl (1)), (4, .inl (q16.1)), (0, .inr (.inr 121)), (1, .inl (x1))]) (st1 := []) (h1 := (px_G1, q16.2)) rfl ?_
                  refine px_D_ls [(0, .inr (.inr 121)), (1, .inl (x1)), (2, .inl (1)), (3, .inl (px_wr (x3 + 1)))] rfl rfl (List.forall_mem_cons.mpr ⟨rfl, List.forall_mem_cons.mpr ⟨rfl, List.forall_mem_cons.mpr ⟨rfl, List.forall_mem_cons.mpr ⟨rfl, fun _ h => absurd h List.not_mem_nil⟩⟩⟩⟩) ?_
                  exact ih _ _ _ _ _ h
              · have hc17 : (q16.2 121 7) = (0) := Decidable.of_not_not (of_decide_eq_false hc)
                rw [if_pos hc17] at h
                refine px_D_st 4 (ip1 := 44) (ls1 := [(4, .inl (q16.1)), (0, .inr (.inr 121)), (1, .inl (x1)), (2, .inl (x2)), (3, .inl (x3))]) (st1 := [.inl (x1), .inr (.inr 142), .inl (x1), .inr (.inr 142)]) (h1 := (px_G1, q16.2)) rfl ?_
                by_cases hc20 : 0 ≤ (x1) ∧ (x1) < 8
                case neg => rw [if_neg hc20] at h; cases h
                rw [if_pos hc20] at h
                refine px_D_iald (k := 137) (n := 8) rfl rfl hc20 ?_
                refine px_D_st 4 (ip1 := 49) (ls1 := [(4, .inl (q16.1)), (0, .inr (.inr 121)), (1, .inl (x1)), (2, .inl (x2)), (3, .inl (x3))]) (st1 := [.inl (px_or ((q16.2 142 x1.toNat)) ((px_shl (1) (q16.1)))), .inl (x1), .inr (.inr 142)]) (h1 := (px_G1, q16.2)) rfl ?_
                by_cases hc21 : 0 ≤ (x1) ∧ (x1) < 8
                case neg => rw [if_neg hc21] at h; cases h
                rw [if_pos hc21] at h
                refine px_D_iast (k := 137) (n := 8) rfl rfl hc21 ?_
                refine px_D_st 4 (ip1 := 54) (ls1 := [(4, .inl (q16.1)), (0, .inr (.inr 121)), (1, .inl (x1)), (2, .inl (x2)), (3, .inl (x3))]) (st1 := [.inl ((px_up q16.2 142 x1.toNat (px_or ((q16.2 142 x1.toNat)) ((px_shl (1) (q16.1))))) 121 4), .inr (.inr 122)]) (h1 := (px_G1, px_up q16.2 142 x1.toNat (px_or ((q16.2 142 x1.toNat)) ((px_shl (1) (q16.1)))))) rfl ?_
                by_cases hc22 : 0 ≤ ((px_up q16.2 142 x1.toNat (px_or ((q16.2 142 x1.toNat)) ((px_shl (1) (q16.1))))) 121 4) ∧ ((px_up q16.2 142 x1.toNat (px_or ((q16.2 142 x1.toNat)) ((px_shl (1) (q16.1))))) 121 4) < 401
                case neg => rw [if_neg hc22] at h; cases h
                rw [if_pos hc22] at h
                refine px_D_iald (k := 117) (n := 401) rfl rfl hc22 ?_
                refine px_D_st 1 (ip1 := 56) (ls1 := [(4, .inl (q16.1)), (0, .inr (.inr 121)), (1, .inl (x1)), (2, .inl (x2)), (3, .inl (x3))]) (st1 := [.inl (1), .inl ((px_up q16.2 142 x1.toNat (px_or ((q16.2 142 x1.toNat)) ((px_shl (1) (q16.1))))) 122 ((px_up q16.2 142 x1.toNat (px_or ((q16.2 142 x1.toNat)) ((px_shl (1) (q16.1))))) 121 4).toNat)]) (h1 := (px_G1, px_up q16.2 142 x1.toNat (px_or ((q16.2 142 x1.toNat)) ((px_shl (1) (q16.1)))))) rfl ?_
                refine px_D_icmp rfl (fun hc => ?_) (fun hc => ?_)
                · have hc23 : ¬ (((px_up q16.2 142 x1.toNat (px_or ((q16.2 142 x1.toNat)) ((px_shl (1) (q16.1))))) 122 ((px_up q16.2 142 x1.toNat (px_or ((q16.2 142 x1.toNat)) ((px_shl (1) (q16.1))))) 121 4).toNat) = (1)) := of_decide_eq_true hc
                  rw [if_neg hc23] at h
                  refine px_D_st 4 (ip1 := 4) (ls1 := [(3, .inl (px_wr (x3 + 1))), (2, .inl (0)), (4, .inl (q16.1)), (0, .inr (.inr 121)), (1, .inl (x1))]) (st1 := []) (h1 := (px_G1, px_up q16.2 142 x1.toNat (px_or ((q16.2 142 x1.toNat)) ((px_shl (1) (q16.1)))))) rfl ?_
                  refine px_D_ls [(0, .inr (.inr 121)), (1, .inl (x1)), (2, .inl (0)), (3, .inl (px_wr (x3 + 1)))] rfl rfl (List.forall_mem_cons.mpr ⟨rfl, List.forall_mem_cons.mpr ⟨rfl, List.forall_mem_cons.mpr ⟨rfl, List.forall_mem_cons.mpr ⟨rfl, fun _ h => absurd h List.not_mem_nil⟩⟩⟩⟩) ?_
                  exact ih _ _ _ _ _ h
                · have hc23 : ((px_up q16.2 142 x1.toNat (px_or ((q16.2 142 x1.toNat)) ((px_shl (1) (q16.1))))) 122 ((px_up q16.2 142 x1.toNat (px_or ((q16.2 142 x1.toNat)) ((px_shl (1) (q16.1))))) 121 4).toNat) = (1) := Decidable.of_not_not (of_decide_eq_false hc)
                  rw [if_pos hc23] at h
                  refine px_D_st 5 (ip1 := 4) (ls1 := [(3, .inl (px_wr (x3 + 1))), (2, .inl (1)), (4, .inl (q16.1)), (0, .inr (.inr 121)), (1, .inl (x1))]) (st1 := []) (h1 := (px_G1, px_up q16.2 142 x1.toNat (px_or ((q16.2 142 x1.toNat)) ((px_shl (1) (q16.1)))))) rfl ?_
                  refine px_D_ls [(0, .inr (.inr 121)), (1, .inl (x1)), (2, .inl (1)), (3, .inl (px_wr (x3 + 1)))] rfl rfl (List.forall_mem_cons.mpr ⟨rfl, List.forall_mem_cons.mpr ⟨rfl, List.forall_mem_cons.mpr ⟨rfl, List.forall_mem_cons.mpr ⟨rfl, fun _ h => absurd h List.not_mem_nil⟩⟩⟩⟩) ?_
                  exact ih _ _ _ _ _ h
            · have hc15 : (s 123 (s 121 4).toNat) = (x1) := Decidable.of_not_not (of_decide_eq_false hc)
              rw [if_pos hc15] at h
              refine px_D_st 2 (ip1 := 28) (ls1 := [(0, .inr (.inr 121)), (1, .inl (x1)), (2, .inl (x2)), (3, .inl (x3))]) (st1 := [.inl (2), .inr (.inr 121)]) (h1 := (px_G1, s)) rfl ?_
              refine px_D_call (as := [.inr (.inr 121), .inl (2)]) (rest := []) rfl rfl rfl rfl ?_
              obtain ⟨q24, hq24, h⟩ := Option.bind_eq_some_iff.mp h
              refine px_D_mono (c_Reader_fail (d := d + 1) hq24) ?_
              rintro _ _ ⟨rfl, rfl⟩
              show px_D sc (d + 2) 58 29 [(0, .inr (.inr 121)), (1, .inl (x1)), (2, .inl (x2)), (3, .inl (x3))] [] (px_G1, q24) _
              refine px_D_st 6 (ip1 := 35) (ls1 := [(0, .inr (.inr 121)), (1, .inl (x1)), (2, .inl (x2)), (3, .inl (x3))]) (st1 := [.inl (px_wr ((q24 121 5) - 1)), .inl (0), .inr (.inr 121)]) (h1 := (px_G1, q24)) rfl ?_
              refine px_D_call (as := [.inr (.inr 121), .inl (0), .inl (px_wr ((q24 121 5) - 1))]) (rest := []) rfl rfl rfl rfl ?_
              obtain ⟨q25, hq25, h⟩ := Option.bind_eq_some_iff.mp h
              refine px_D_mono (c_Reader_numberWithin (d := d + 0) hq25) ?_
              rintro _ _ ⟨rfl, rfl⟩
              show px_D sc (d + 2) 58 36 [(0, .inr (.inr 121)), (1, .inl (x1)), (2, .inl (x2)), (3, .inl (x3))] [.inl (q25.1)] (px_G1, q25.2) _
              refine px_D_st 3 (ip1 := 39) (ls1 := [(4, .inl (q25.1)), (0, .inr (.inr 121)), (1, .inl (x1)), (2, .inl (x2)), (3, .inl (x3))]) (st1 := [.inl (q25.2 121 7)]) (h1 := (px_G1, q25.2)) rfl ?_
              refine px_D_ifc rfl (fun hc => ?_) (fun hc => ?_)
              · have hc26 : ¬ ((q25.2 121 7) = (0)) := of_decide_eq_true hc
                rw [if_neg hc26] at h
                refine px_D_st 4 (ip1 := 54) (ls1 := [(4, .inl (q25.1)), (0, .inr (.inr 121)), (1, .inl (x1)), (2, .inl (x2)), (3, .inl (x3))]) (st1 := [.inl (q25.2 121 4), .inr (.inr 122)]) (h1 := (px_G1, q25.2)) rfl ?_
                by_cases hc27 : 0 ≤ (q25.2 121 4) ∧ (q25.2 121 4) < 401
                case neg => rw [if_neg hc27] at h; cases h
                rw [if_pos hc27] at h
                refine px_D_iald (k := 117) (n := 401) rfl rfl hc27 ?_
                refine px_D_st 1 (ip1 := 56) (ls1 := [(4, .inl (q25.1)), (0, .inr (.inr 121)), (1, .inl (x1)), (2, .inl (x2)), (3, .inl (x3))]) (st1 := [.inl (1), .inl (q25.2 122 (q25.2 121 4).toNat)]) (h1 := (px_G1, q25.2)) rfl ?_
                refine px_D_icmp rfl (fun hc => ?_) (fun hc => ?_)
                · have hc28 : ¬ ((q25.2 122 (q25.2 121 4).toNat) = (1)) := of_decide_eq_true hc
                  rw [if_neg hc28] at h
                  refine px_D_st 4 (ip1 := 4) (ls1 := [(3, .inl (px_wr (x3 + 1))), (2, .inl (0)), (4, .inl (q25.1)), (0, .inr (.inr 121)), (1, .inl (x1))]) (st1 := []) (h1 := (px_G1, q25.2)) rfl ?_
                  refine px_D_ls [(0, .inr (.inr 121)), (1, .inl (x1)), (2, .inl (0)), (3, .inl (px_wr (x3 + 1)))] rfl rfl (List.forall_mem_cons.mpr ⟨rfl, List.forall_mem_cons.mpr ⟨rfl, List.forall_mem_cons.mpr ⟨rfl, List.forall_mem_cons.mpr ⟨rfl, fun _ h => absurd h List.not_mem_nil⟩⟩⟩⟩) ?_
                  exact ih _ _ _ _ _ h
                · have hc28 : (q25.2 122 (q25.2 121 4).toNat) = (1) := Decidable.of_not_not (of_decide_eq_false hc)
                  rw [if_pos hc28] at h
                  refine px_D_st 5 (ip1 := 4) (ls1 := [(3, .inl (px_wr (x3 + 1))), (2, .inl (1)), (4, .inl (q25.1)), (0, .inr (.inr 121)), (1, .inl (x1))]) (st1 := []) (h1 := (px_G1, q25.2)) rfl ?_
                  refine px_D_ls [(0, .inr (.inr 121)), (1, .inl (x1)), (2, .inl (1)), (3, .inl (px_wr (x3 + 1)))] rfl rfl (List.forall_mem_cons.mpr ⟨rfl, List.forall_mem_cons.mpr ⟨rfl, List.forall_mem_cons.mpr ⟨rfl, List.forall_mem_cons.mpr ⟨rfl, fun _ h => absurd h List.not_mem_nil⟩⟩⟩⟩) ?_
                  exact ih _ _ _ _ _ h
              · have hc26 : (q25.2 121 7) = (0) := Decidable.of_not_not (of_decide_eq_false hc)
                rw [if_pos hc26] at h
                refine px_D_st 4 (ip1 := 44) (ls1 := [(4, .inl (q25.1)), (0, .inr (.inr 121)), (1, .inl (x1)), (2, .inl (x2)), (3, .inl (x3))]) (st1 := [.inl (x1), .inr (.inr 142), .inl (x1), .inr (.inr 142)]) (h1 := (px_G1, q25.2)) rfl ?_
                by_cases hc29 : 0 ≤ (x1) ∧ (x1) < 8
                case neg => rw [if_neg hc29] at h; cases h
                rw [if_pos hc29] at h
                refine px_D_iald (k := 137) (n := 8) rfl rfl hc29 ?_
                refine px_D_st 4 (ip1 := 49) (ls1 := [(4, .inl (q25.1)), (0, .inr (.inr 121)), (1, .inl (x1)), (2, .inl (x2)), (3, .inl (x3))]) (st1 := [.inl (px_or ((q25.2 142 x1.toNat)) ((px_shl (1) (q25.1)))), .inl (x1), .inr (.inr 142)]) (h1 := (px_G1, q25.2)) rfl ?_
                by_cases hc30 : 0 ≤ (x1) ∧ (x1) < 8
                case neg => rw [if_neg hc30] at h; cases h
                rw [if_pos hc30] at h
                refine px_D_iast (k := 137) (n := 8) rfl rfl hc30 ?_
                refine px_D_st 4 (ip1 := 54) (ls1 := [(4, .inl (q25.1)), (0, .inr (.inr 121)), (1, .inl (x1)), (2, .inl (x2)), (3, .inl (x3))]) (st1 := [.inl ((px_up q25.2 142 x1.toNat (px_or ((q25.2 142 x1.toNat)) ((px_shl (1) (q25.1))))) 121 4), .inr (.inr 122)]) (h1 := (px_G1, px_up q25.2 142 x1.toNat (px_or ((q25.2 142 x1.toNat)) ((px_shl (1) (q25.1)))))) rfl ?_
                by_cases hc31 : 0 ≤ ((px_up q25.2 142 x1.toNat (px_or ((q25.2 142 x1.toNat)) ((px_shl (1) (q25.1))))) 121 4) ∧ ((px_up q25.2 142 x1.toNat (px_or ((q25.2 142 x1.toNat)) ((px_shl (1) (q25.1))))) 121 4) < 401
                case neg => rw [if_neg hc31] at h; cases h
                rw [if_pos hc31] at h
                refine px_D_iald (k := 117) (n := 401) rfl rfl hc31 ?_
                refine px_D_st 1 (ip1 := 56) (ls1 := [(4, .inl (q25.1)), (0, .inr (.inr 121)), (1, .inl (x1)), (2, .inl (x2)), (3, .inl (x3))]) (st1 := [.inl (1), .inl ((px_up q25.2 142 x1.toNat (px_or ((q25.2 142 x1.toNat)) ((px_shl (1) (q25.1))))) 122 ((px_up q25.2 142 x1.toNat (px_or ((q25.2 142 x1.toNat)) ((px_shl (1) (q25.1))))) 121 4).toNat)]) (h1 := (px_G1, px_up q25.2 142 x1.toNat (px_or ((q25.2 142 x1.toNat)) ((px_shl (1) (q25.1)))))) rfl ?_
                refine px_D_icmp rfl (fun hc => ?_) (fun hc => ?_)
                · have hc32 : ¬ (((px_up q25.2 142 x1.toNat (px_or ((q25.2 142 x1.toNat)) ((px_shl (1) (q25.1))))) 122 ((px_up q25.2 142 x1.toNat (px_or ((q25.2 142 x1.toNat)) ((px_shl (1) (q25.1))))) 121 4).toNat) = (1)) := of_decide_eq_true hc
                  rw [if_neg hc32] at h
                  refine px_D_st 4 (ip1 := 4) (ls1 := [(3, .inl (px_wr (x3 + 1))), (2, .inl (0)), (4, .inl (q25.1)), (0, .inr (.inr 121)), (1, .inl (x1))]) (st1 := []) (h1 := (px_G1, px_up q25.2 142 x1.toNat (px_or ((q25.2 142 x1.toNat)) ((px_shl (1) (q25.1)))))) rfl ?_
                  refine px_D_ls [(0, .inr (.inr 121)), (1, .inl (x1)), (2, .inl (0)), (3, .inl (px_wr (x3 + 1)))] rfl rfl (List.forall_mem_cons.mpr ⟨rfl, List.forall_mem_cons.mpr ⟨rfl, List.forall_mem_cons.mpr ⟨rfl, List.forall_mem_cons.mpr ⟨rfl, fun _ h => absurd h List.not_mem_nil⟩⟩⟩⟩) ?_
                  exact ih _ _ _ _ _ h
                · have hc32 : ((px_up q25.2 142 x1.toNat (px_or ((q25.2 142 x1.toNat)) ((px_shl (1) (q25.1))))) 122 ((px_up q25.2 142 x1.toNat (px_or ((q25.2 142 x1.toNat)) ((px_shl (1) (q25.1))))) 121 4).toNat) = (1) := Decidable.of_not_not (of_decide_eq_false hc)
                  rw [if_pos hc32] at h
                  refine px_D_st 5 (ip1 := 4) (ls1 := [(3, .inl (px_wr (x3 + 1))), (2, .inl (1)), (4, .inl (q25.1)), (0, .inr (.inr 121)), (1, .inl (x1))]) (st1 := []) (h1 := (px_G1, px_up q25.2 142 x1.toNat (px_or ((q25.2 142 x1.toNat)) ((px_shl (1) (q25.1)))))) rfl ?_
                  refine px_D_ls [(0, .inr (.inr 121)), (1, .inl (x1)), (2, .inl (1)), (3, .inl (px_wr (x3 + 1)))] rfl rfl (List.forall_mem_cons.mpr ⟨rfl, List.forall_mem_cons.mpr ⟨rfl, List.forall_mem_cons.mpr ⟨rfl, List.forall_mem_cons.mpr ⟨rfl, fun _ h => absurd h List.not_mem_nil⟩⟩⟩⟩) ?_
                  exact ih _ _ _ _ _ h
def f_Reader_readAfterThings (s : px_Z) (x1 : Int) : Option (px_Z) := l_Reader_readAfterThings_4  px_big s x1 1 0
set_option maxHeartbeats 4000000 in
set_option maxRecDepth 100000 in
theorem c_Reader_readAfterThings {sc : List Int} {d : Nat} {s : px_Z} {x1 : Int} {out : px_Z} (h : f_Reader_readAfterThings s x1 = some out) : px_D sc (d + 2) 58 0 [(0, .inr (.inr 121)), (1, .inl (x1))] [] (px_G1, s) (px_Qv out) := by
  unfold f_Reader_readAfterThings at h
  refine px_D_st 4 (ip1 := 4) (ls1 := [(3, .inl (0)), (2, .inl (1)), (0, .inr (.inr 121)), (1, .inl (x1))]) (st1 := []) (h1 := (px_G1, s)) rfl ?_
  refine px_D_ls [(0, .inr (.inr 121)), (1, .inl (x1)), (2, .inl (1)), (3, .inl (0))] rfl rfl (List.forall_mem_cons.mpr ⟨rfl, List.forall_mem_cons.mpr ⟨rfl, List.forall_mem_cons.mpr ⟨rfl, List.forall_mem_cons.mpr ⟨rfl, fun _ h => absurd h List.not_mem_nil⟩⟩⟩⟩) ?_
  refine cl_Reader_readAfterThings_4  px_big _ _ _ _ _ h

def l_Reader_readAfter_9  : Nat → px_Z → Int → Option (px_Z)
  | 0, _, _ => none
  | n + 1, s, x1 => if (12) < (x1) then some s else (f_Reader_goesOn s ).bind (fun q3 => if (q3) = (0) then some s else (if (x1) = (12) then (if 0 ≤ (s 121 4) ∧ (s 121 4) < 401 then if (s 122 (s 121 4).toNat) = (1) then (if 0 ≤ (s 121 4) ∧ (s 121 4) < 401 then if (s 121 5) ≤ (s 123 (s 121 4).toNat) then (f_Reader_numberWithin s 0 (px_wr ((s 121 5) - 1))).bind (fun q18 => (f_Reader_expect q18.2 279).bind (fun q19 => (f_Reader_readAfterThings q19 q18.1).bind (fun q20 => (f_Reader_expect q20 59).bind (fun q21 => l_Reader_readAfter_9  n (px_up q21 121 13 (px_wr ((q21 121 13) + 1))) (px_wr (x1 + 1)))))) else (f_Reader_fail s 3).bind (fun q22 => (f_Reader_numberWithin q22 0 (px_wr ((q22 121 5) - 1))).bind (fun q23 => (f_Reader_expect q23.2 279).bind (fun q24 => (f_Reader_readAfterThings q24 q23.1).bind (fun q25 => (f_Reader_expect q25 59).bind (fun q26 => l_Reader_readAfter_9  n (px_up q26 121 13 (px_wr ((q26 121 13) + 1))) (px_wr (x1 + 1))))))) else none) else (f_Reader_numberWithin s 0 (px_wr ((s 121 5) - 1))).bind (fun q12 => (f_Reader_expect q12.2 279).bind (fun q13 => (f_Reader_readAfterThings q13 q12.1).bind (fun q14 => (f_Reader_expect q14 59).bind (fun q15 => l_Reader_readAfter_9  n (px_up q15 121 13 (px_wr ((q15 121 13) + 1))) (px_wr (x1 + 1)))))) else none) else (f_Reader_numberWithin s 0 (px_wr ((s 121 5) - 1))).bind (fun q6 => (f_Reader_expect q6.2 279).bind (fun q7 => (f_Reader_readAfterThings q7 q6.1).bind (fun q8 => (f_Reader_expect q8 59).bind (fun q9 => l_Reader_readAfter_9  n (px_up q9 121 13 (px_wr ((q9 121 13) + 1))) (px_wr (x1 + 1))))))))
set_option maxHeartbeats 4000000 in
set_option maxRecDepth 100000 in
theorem cl_Reader_readAfter_9 {sc : List Int} {d : Nat}  : ∀ (n : Nat) (s : px_Z) (x1 : Int) (out : px_Z), l_Reader_readAfter_9  n s x1 = some out → px_D sc (d + 3) 57 9 [(0, .inr (.inr 121)), (1, .inl (x1))] [] (px_G1, s) (px_Qv out) := by
  intro n
  induction n with
  | zero => intro s x1 out h; cases h
  | succ n ih =>
    intro s x1 out h
    rw [l_Reader_readAfter_9] at h
    refine px_D_st 2 (ip1 := 11) (ls1 := [(0, .inr (.inr 121)), (1, .inl (x1))]) (st1 := [.inl (12), .inl (x1)]) (h1 := (px_G1, s)) rfl ?_
    refine px_D_icmp rfl (fun hc => ?_) (fun hc => ?_)
    · have hc2 : (12) < (x1) := of_decide_eq_true hc
      rw [if_pos hc2] at h
      cases h
      exact px_D_vret rfl ⟨rfl, rfl⟩
    · have hc2 : ¬ ((12) < (x1)) := of_decide_eq_false hc
      rw [if_neg hc2] at h
      refine px_D_st 1 (ip1 := 13) (ls1 := [(0, .inr (.inr 121)), (1, .inl (x1))]) (st1 := [.inr (.inr 121)]) (h1 := (px_G1, s)) rfl ?_
      refine px_D_call (as := [.inr (.inr 121)]) (rest := []) rfl rfl rfl rfl ?_
      obtain ⟨q3, hq3, h⟩ := Option.bind_eq_some_iff.mp h
      refine px_D_mono (c_Reader_goesOn (d := d + 2) hq3) ?_
      rintro _ _ ⟨rfl, rfl⟩
      show px_D sc (d + 3) 57 14 [(0, .inr (.inr 121)), (1, .inl (x1))] [.inl (q3)] (px_G1, s) _
      refine px_D_ifc rfl (fun hc => ?_) (fun hc => ?_)
      · have hc4 : (q3) = (0) := of_decide_eq_true hc
        rw [if_pos hc4] at h
        cases h
        exact px_D_vret rfl ⟨rfl, rfl⟩
      · have hc4 : ¬ ((q3) = (0)) := of_decide_eq_false hc
        rw [if_neg hc4] at h
        refine px_D_st 2 (ip1 := 17) (ls1 := [(0, .inr (.inr 121)), (1, .inl (x1))]) (st1 := [.inl (12), .inl (x1)]) (h1 := (px_G1, s)) rfl ?_
        refine px_D_icmp rfl (fun hc => ?_) (fun hc => ?_)
        · have hc5 : ¬ ((x1) = (12)) := of_decide_eq_true hc
          rw [if_neg hc5] at h
          refine px_D_st 6 (ip1 := 42) (ls1 := [(0, .inr (.inr 121)), (1, .inl (x1))]) (st1 := [.inl (px_wr ((s 121 5) - 1)), .inl (0), .inr (.inr 121)]) (h1 := (px_G1, s)) rfl ?_
          refine px_D_call (as := [.inr (.inr 121), .inl (0), .inl (px_wr ((s 121 5) - 1))]) (rest := []) rfl rfl rfl rfl ?_
          obtain ⟨q6, hq6, h⟩ := Option.bind_eq_some_iff.mp h
          refine px_D_mono (c_Reader_numberWithin (d := d + 1) hq6) ?_
          rintro _ _ ⟨rfl, rfl⟩
          show px_D sc (d + 3) 57 43 [(0, .inr (.inr 121)), (1, .inl (x1))] [.inl (q6.1)] (px_G1, q6.2) _
          refine px_D_st 3 (ip1 := 46) (ls1 := [(2, .inl (q6.1)), (0, .inr (.inr 121)), (1, .inl (x1))]) (st1 := [.inl (279), .inr (.inr 121)]) (h1 := (px_G1, q6.2)) rfl ?_
          refine px_D_call (as := [.inr (.inr 121), .inl (279)]) (rest := []) rfl rfl rfl rfl ?_
          obtain ⟨q7, hq7, h⟩ := Option.bind_eq_some_iff.mp h
          refine px_D_mono (c_Reader_expect (d := d + 1) hq7) ?_
          rintro _ _ ⟨rfl, rfl⟩
          show px_D sc (d + 3) 57 47 [(2, .inl (q6.1)), (0, .inr (.inr 121)), (1, .inl (x1))] [] (px_G1, q7) _
          refine px_D_st 2 (ip1 := 49) (ls1 := [(2, .inl (q6.1)), (0, .inr (.inr 121)), (1, .inl (x1))]) (st1 := [.inl (q6.1), .inr (.inr 121)]) (h1 := (px_G1, q7)) rfl ?_
          refine px_D_call (as := [.inr (.inr 121), .inl (q6.1)]) (rest := []) rfl rfl rfl rfl ?_
          obtain ⟨q8, hq8, h⟩ := Option.bind_eq_some_iff.mp h
          refine px_D_mono (c_Reader_readAfterThings (d := d + 0) hq8) ?_
          rintro _ _ ⟨rfl, rfl⟩
          show px_D sc (d + 3) 57 50 [(2, .inl (q6.1)), (0, .inr (.inr 121)), (1, .inl (x1))] [] (px_G1, q8) _
          refine px_D_st 2 (ip1 := 52) (ls1 := [(2, .inl (q6.1)), (0, .inr (.inr 121)), (1, .inl (x1))]) (st1 := [.inl (59), .inr (.inr 121)]) (h1 := (px_G1, q8)) rfl ?_
          refine px_D_call (as := [.inr (.inr 121), .inl (59)]) (rest := []) rfl rfl rfl rfl ?_
          obtain ⟨q9, hq9, h⟩ := Option.bind_eq_some_iff.mp h
          refine px_D_mono (c_Reader_expect (d := d + 1) hq9) ?_
          rintro _ _ ⟨rfl, rfl⟩
          show px_D sc (d + 3) 57 53 [(2, .inl (q6.1)), (0, .inr (.inr 121)), (1, .inl (x1))] [] (px_G1, q9) _
          refine px_D_st 8 (ip1 := 9) (ls1 := [(1, .inl (px_wr (x1 + 1))), (2, .inl (q6.1)), (0, .inr (.inr 121))]) (st1 := []) (h1 := (px_G1, px_up q9 121 13 (px_wr ((q9 121 13) + 1)))) rfl ?_
          refine px_D_ls [(0, .inr (.inr 121)), (1, .inl (px_wr (x1 + 1)))] rfl rfl (List.forall_mem_cons.mpr ⟨rfl, List.forall_mem_cons.mpr ⟨rfl, fun _ h => absurd h List.not_mem_nil⟩⟩) ?_
          exact ih _ _ _ h
        · have hc5 : (x1) = (12) := Decidable.of_not_not (of_decide_eq_false hc)
          rw [if_pos hc5] at h
          refine px_D_st 4 (ip1 := 22) (ls1 := [(0, .inr (.inr 121)), (1, .inl (x1))]) (st1 := [.inl (s 121 4), .inr (.inr 122)]) (h1 := (px_G1, s)) rfl ?_
          by_cases hc10 : 0 ≤ (s 121 4) ∧ (s 121 4) < 401
          case neg => rw [if_neg hc10] at h; cases h
          rw [if_pos hc10] at h
          refine px_D_iald (k := 117) (n := 401) rfl rfl hc10 ?_
          refine px_D_st 1 (ip1 := 24) (ls1 := [(0, .inr (.inr 121)), (1, .inl (x1))]) (st1 := [.inl (1), .inl (s 122 (s 121 4).toNat)]) (h1 := (px_G1, s)) rfl ?_
          refine px_D_icmp rfl (fun hc => ?_) (fun hc => ?_)
          · have hc11 : ¬ ((s 122 (s 121 4).toNat) = (1)) := of_decide_eq_true hc
            rw [if_neg hc11] at h
            refine px_D_st 6 (ip1 := 42) (ls1 := [(0, .inr (.inr 121)), (1, .inl (x1))]) (st1 := [.inl (px_wr ((s 121 5) - 1)), .inl (0), .inr (.inr 121)]) (h1 := (px_G1, s)) rfl ?_
            refine px_D_call (as := [.inr (.inr 121), .inl (0), .inl (px_wr ((s 121 5) - 1))]) (rest := []) rfl rfl rfl rfl ?_
            obtain ⟨q12, hq12, h⟩ := Option.bind_eq_some_iff.mp h
            refine px_D_mono (c_Reader_numberWithin (d := d + 1) hq12) ?_
            rintro _ _ ⟨rfl, rfl⟩
            show px_D sc (d + 3) 57 43 [(0, .inr (.inr 121)), (1, .inl (x1))] [.inl (q12.1)] (px_G1, q12.2) _
            refine px_D_st 3 (ip1 := 46) (ls1 := [(2, .inl (q12.1)), (0, .inr (.inr 121)), (1, .inl (x1))]) (st1 := [.inl (279), .inr (.inr 121)]) (h1 := (px_G1, q12.2)) rfl ?_
            refine px_D_call (as := [.inr (.inr 121), .inl (279)]) (rest := []) rfl rfl rfl rfl ?_
            obtain ⟨q13, hq13, h⟩ := Option.bind_eq_some_iff.mp h
            refine px_D_mono (c_Reader_expect (d := d + 1) hq13) ?_
            rintro _ _ ⟨rfl, rfl⟩
            show px_D sc (d + 3) 57 47 [(2, .inl (q12.1)), (0, .inr (.inr 121)), (1, .inl (x1))] [] (px_G1, q13) _
            refine px_D_st 2 (ip1 := 49) (ls1 := [(2, .inl (q12.1)), (0, .inr (.inr 121)), (1, .inl (x1))]) (st1 := [.inl (q12.1), .inr (.inr 121)]) (h1 := (px_G1, q13)) rfl ?_
            refine px_D_call (as := [.inr (.inr 121), .inl (q12.1)]) (rest := []) rfl rfl rfl rfl ?_
            obtain ⟨q14, hq14, h⟩ := Option.bind_eq_some_iff.mp h
            refine px_D_mono (c_Reader_readAfterThings (d := d + 0) hq14) ?_
            rintro _ _ ⟨rfl, rfl⟩
            show px_D sc (d + 3) 57 50 [(2, .inl (q12.1)), (0, .inr (.inr 121)), (1, .inl (x1))] [] (px_G1, q14) _
            refine px_D_st 2 (ip1 := 52) (ls1 := [(2, .inl (q12.1)), (0, .inr (.inr 121)), (1, .inl (x1))]) (st1 := [.inl (59), .inr (.inr 121)]) (h1 := (px_G1, q14)) rfl ?_
            refine px_D_call (as := [.inr (.inr 121), .inl (59)]) (rest := []) rfl rfl rfl rfl ?_
            obtain ⟨q15, hq15, h⟩ := Option.bind_eq_some_iff.mp h
            refine px_D_mono (c_Reader_expect (d := d + 1) hq15) ?_
            rintro _ _ ⟨rfl, rfl⟩
            show px_D sc (d + 3) 57 53 [(2, .inl (q12.1)), (0, .inr (.inr 121)), (1, .inl (x1))] [] (px_G1, q15) _
            refine px_D_st 8 (ip1 := 9) (ls1 := [(1, .inl (px_wr (x1 + 1))), (2, .inl (q12.1)), (0, .inr (.inr 121))]) (st1 := []) (h1 := (px_G1, px_up q15 121 13 (px_wr ((q15 121 13) + 1)))) rfl ?_
            refine px_D_ls [(0, .inr (.inr 121)), (1, .inl (px_wr (x1 + 1)))] rfl rfl (List.forall_mem_cons.mpr ⟨rfl, List.forall_mem_cons.mpr ⟨rfl, fun _ h => absurd h List.not_mem_nil⟩⟩) ?_
            exact ih _ _ _ h
          · have hc11 : (s 122 (s 121 4).toNat) = (1) := Decidable.of_not_not (of_decide_eq_false hc)
            rw [if_pos hc11] at h
            refine px_D_st 4 (ip1 := 29) (ls1 := [(0, .inr (.inr 121)), (1, .inl (x1))]) (st1 := [.inl (s 121 4), .inr (.inr 123)]) (h1 := (px_G1, s)) rfl ?_
            by_cases hc16 : 0 ≤ (s 121 4) ∧ (s 121 4) < 401
            case neg => rw [if_neg hc16] at h; cases h
            rw [if_pos hc16] at h
            refine px_D_iald (k := 118) (n := 401) rfl rfl hc16 ?_
            refine px_D_st 2 (ip1 := 32) (ls1 := [(0, .inr (.inr 121)), (1, .inl (x1))]) (st1 := [.inl (s 121 5), .inl (s 123 (s 121 4).toNat)]) (h1 := (px_G1, s)) rfl ?_
            refine px_D_icmp rfl (fun hc => ?_) (fun hc => ?_)
            · have hc17 : (s 121 5) ≤ (s 123 (s 121 4).toNat) := of_decide_eq_true hc
              rw [if_pos hc17] at h
              refine px_D_st 6 (ip1 := 42) (ls1 := [(0, .inr (.inr 121)), (1, .inl (x1))]) (st1 := [.inl (px_wr ((s 121 5) - 1)), .inl (0), .inr (.inr 121)]) (h1 := (px_G1, s)) rfl ?_
              refine px_D_call (as := [.inr (.inr 121), .inl (0), .inl (px_wr ((s 121 5) - 1))]) (rest := []) rfl rfl rfl rfl ?_
              obtain ⟨q18, hq18, h⟩ := Option.bind_eq_some_iff.mp h
              refine px_D_mono (c_Reader_numberWithin (d := d + 1) hq18) ?_
              rintro _ _ ⟨rfl, rfl⟩
              show px_D sc (d + 3) 57 43 [(0, .inr (.inr 121)), (1, .inl (x1))] [.inl (q18.1)] (px_G1, q18.2) _
              refine px_D_st 3 (ip1 := 46) (ls1 := [(2, .inl (q18.1)), (0, .inr (.inr 121)), (1, .inl (x1))]) (st1 := [.inl (279), .inr (.inr 121)]) (h1 := (px_G1, q18.2)) rfl ?_
              refine px_D_call (as := [.inr (.inr 121), .inl (279)]) (rest := []) rfl rfl rfl rfl ?_
              obtain ⟨q19, hq19, h⟩ := Option.bind_eq_some_iff.mp h
              refine px_D_mono (c_Reader_expect (d := d + 1) hq19) ?_
              rintro _ _ ⟨rfl, rfl⟩
              show px_D sc (d + 3) 57 47 [(2, .inl (q18.1)), (0, .inr (.inr 121)), (1, .inl (x1))] [] (px_G1, q19) _
              refine px_D_st 2 (ip1 := 49) (ls1 := [(2, .inl (q18.1)), (0, .inr (.inr 121)), (1, .inl (x1))]) (st1 := [.inl (q18.1), .inr (.inr 121)]) (h1 := (px_G1, q19)) rfl ?_
              refine px_D_call (as := [.inr (.inr 121), .inl (q18.1)]) (rest := []) rfl rfl rfl rfl ?_
              obtain ⟨q20, hq20, h⟩ := Option.bind_eq_some_iff.mp h
              refine px_D_mono (c_Reader_readAfterThings (d := d + 0) hq20) ?_
              rintro _ _ ⟨rfl, rfl⟩
              show px_D sc (d + 3) 57 50 [(2, .inl (q18.1)), (0, .inr (.inr 121)), (1, .inl (x1))] [] (px_G1, q20) _
              refine px_D_st 2 (ip1 := 52) (ls1 := [(2, .inl (q18.1)), (0, .inr (.inr 121)), (1, .inl (x1))]) (st1 := [.inl (59), .inr (.inr 121)]) (h1 := (px_G1, q20)) rfl ?_
              refine px_D_call (as := [.inr (.inr 121), .inl (59)]) (rest := []) rfl rfl rfl rfl ?_
              obtain ⟨q21, hq21, h⟩ := Option.bind_eq_some_iff.mp h
              refine px_D_mono (c_Reader_expect (d := d + 1) hq21) ?_
              rintro _ _ ⟨rfl, rfl⟩
              show px_D sc (d + 3) 57 53 [(2, .inl (q18.1)), (0, .inr (.inr 121)), (1, .inl (x1))] [] (px_G1, q21) _
              refine px_D_st 8 (ip1 := 9) (ls1 := [(1, .inl (px_wr (x1 + 1))), (2, .inl (q18.1)), (0, .inr (.inr 121))]) (st1 := []) (h1 := (px_G1, px_up q21 121 13 (px_wr ((q21 121 13) + 1)))) rfl ?_
              refine px_D_ls [(0, .inr (.inr 121)), (1, .inl (px_wr (x1 + 1)))] rfl rfl (List.forall_mem_cons.mpr ⟨rfl, List.forall_mem_cons.mpr ⟨rfl, fun _ h => absurd h List.not_mem_nil⟩⟩) ?_
              exact ih _ _ _ h
            · have hc17 : ¬ ((s 121 5) ≤ (s 123 (s 121 4).toNat)) := of_decide_eq_false hc
              rw [if_neg hc17] at h
              refine px_D_st 2 (ip1 := 35) (ls1 := [(0, .inr (.inr 121)), (1, .inl (x1))]) (st1 := [.inl (3), .inr (.inr 121)]) (h1 := (px_G1, s)) rfl ?_
              refine px_D_call (as := [.inr (.inr 121), .inl (3)]) (rest := []) rfl rfl rfl rfl ?_
              obtain ⟨q22, hq22, h⟩ := Option.bind_eq_some_iff.mp h
              refine px_D_mono (c_Reader_fail (d := d + 2) hq22) ?_
              rintro _ _ ⟨rfl, rfl⟩
              show px_D sc (d + 3) 57 36 [(0, .inr (.inr 121)), (1, .inl (x1))] [] (px_G1, q22) _
              refine px_D_st 6 (ip1 := 42) (ls1 := [(0, .inr (.inr 121)), (1, .inl (x1))]) (st1 := [.inl (px_wr ((q22 121 5) - 1)), .inl (0), .inr (.inr 121)]) (h1 := (px_G1, q22)) rfl ?_
              refine px_D_call (as := [.inr (.inr 121), .inl (0), .inl (px_wr ((q22 121 5) - 1))]) (rest := []) rfl rfl rfl rfl ?_
              obtain ⟨q23, hq23, h⟩ := Option.bind_eq_some_iff.mp h
              refine px_D_mono (c_Reader_numberWithin (d := d + 1) hq23) ?_
              rintro _ _ ⟨rfl, rfl⟩
              show px_D sc (d + 3) 57 43 [(0, .inr (.inr 121)), (1, .inl (x1))] [.inl (q23.1)] (px_G1, q23.2) _
              refine px_D_st 3 (ip1 := 46) (ls1 := [(2, .inl (q23.1)), (0, .inr (.inr 121)), (1, .inl (x1))]) (st1 := [.inl (279), .inr (.inr 121)]) (h1 := (px_G1, q23.2)) rfl ?_
              refine px_D_call (as := [.inr (.inr 121), .inl (279)]) (rest := []) rfl rfl rfl rfl ?_
              obtain ⟨q24, hq24, h⟩ := Option.bind_eq_some_iff.mp h
              refine px_D_mono (c_Reader_expect (d := d + 1) hq24) ?_
              rintro _ _ ⟨rfl, rfl⟩
              show px_D sc (d + 3) 57 47 [(2, .inl (q23.1)), (0, .inr (.inr 121)), (1, .inl (x1))] [] (px_G1, q24) _
              refine px_D_st 2 (ip1 := 49) (ls1 := [(2, .inl (q23.1)), (0, .inr (.inr 121)), (1, .inl (x1))]) (st1 := [.inl (q23.1), .inr (.inr 121)]) (h1 := (px_G1, q24)) rfl ?_
              refine px_D_call (as := [.inr (.inr 121), .inl (q23.1)]) (rest := []) rfl rfl rfl rfl ?_
              obtain ⟨q25, hq25, h⟩ := Option.bind_eq_some_iff.mp h
              refine px_D_mono (c_Reader_readAfterThings (d := d + 0) hq25) ?_
              rintro _ _ ⟨rfl, rfl⟩
              show px_D sc (d + 3) 57 50 [(2, .inl (q23.1)), (0, .inr (.inr 121)), (1, .inl (x1))] [] (px_G1, q25) _
              refine px_D_st 2 (ip1 := 52) (ls1 := [(2, .inl (q23.1)), (0, .inr (.inr 121)), (1, .inl (x1))]) (st1 := [.inl (59), .inr (.inr 121)]) (h1 := (px_G1, q25)) rfl ?_
              refine px_D_call (as := [.inr (.inr 121), .inl (59)]) (rest := []) rfl rfl rfl rfl ?_
              obtain ⟨q26, hq26, h⟩ := Option.bind_eq_some_iff.mp h
              refine px_D_mono (c_Reader_expect (d := d + 1) hq26) ?_
              rintro _ _ ⟨rfl, rfl⟩
              show px_D sc (d + 3) 57 53 [(2, .inl (q23.1)), (0, .inr (.inr 121)), (1, .inl (x1))] [] (px_G1, q26) _
              refine px_D_st 8 (ip1 := 9) (ls1 := [(1, .inl (px_wr (x1 + 1))), (2, .inl (q23.1)), (0, .inr (.inr 121))]) (st1 := []) (h1 := (px_G1, px_up q26 121 13 (px_wr ((q26 121 13) + 1)))) rfl ?_
              refine px_D_ls [(0, .inr (.inr 121)), (1, .inl (px_wr (x1 + 1)))] rfl rfl (List.forall_mem_cons.mpr ⟨rfl, List.forall_mem_cons.mpr ⟨rfl, fun _ h => absurd h List.not_mem_nil⟩⟩) ?_
              exact ih _ _ _ h
def f_Reader_readAfter (s : px_Z) : Option (px_Z) := (f_Arrays_fill_2 (px_up s 121 13 0) 0).bind (fun q1 => l_Reader_readAfter_9  px_big q1 0)
set_option maxHeartbeats 4000000 in
set_option maxRecDepth 100000 in
theorem c_Reader_readAfter {sc : List Int} {d : Nat} {s : px_Z} {out : px_Z} (h : f_Reader_readAfter s  = some out) : px_D sc (d + 3) 57 0 [(0, .inr (.inr 121))] [] (px_G1, s) (px_Qv out) := by
  unfold f_Reader_readAfter at h
  refine px_D_st 6 (ip1 := 6) (ls1 := [(0, .inr (.inr 121))]) (st1 := [.inl (0), .inr (.inr 142)]) (h1 := (px_G1, px_up s 121 13 0)) rfl ?_
  refine px_D_call (as := [.inr (.inr 142), .inl (0)]) (rest := []) rfl rfl rfl rfl ?_
  obtain ⟨q1, hq1, h⟩ := Option.bind_eq_some_iff.mp h
  refine px_D_mono (c_Arrays_fill_2 (d := d + 2) hq1) ?_
  rintro _ _ ⟨rfl, rfl⟩
  show px_D sc (d + 3) 57 7 [(0, .inr (.inr 121))] [] (px_G1, q1) _
  refine px_D_st 2 (ip1 := 9) (ls1 := [(1, .inl (0)), (0, .inr (.inr 121))]) (st1 := []) (h1 := (px_G1, q1)) rfl ?_
  refine px_D_ls [(0, .inr (.inr 121)), (1, .inl (0))] rfl rfl (List.forall_mem_cons.mpr ⟨rfl, List.forall_mem_cons.mpr ⟨rfl, fun _ h => absurd h List.not_mem_nil⟩⟩) ?_
  refine cl_Reader_readAfter_9  px_big _ _ _ h

def f_R_text (s : px_Z) (x1 : Int) : Option (Int × px_Z) := (f_Reader_split s (s 5 5) (s 6 1)).bind (fun q1 => if (x1) = 0 then (f_Reader_readLaw (px_up q1 5 5 0) 1).bind (fun q3 => if (q3 121 7) = (0) then (f_R_takeText q3 x1).bind (fun q5 => some (q5.1, q5.2)) else some (((-1), q3))) else (if (x1) = 1 then (f_Reader_readLaw (px_up q1 5 5 0) 0).bind (fun q7 => if (q7 121 7) = (0) then (f_R_takeText q7 x1).bind (fun q9 => some (q9.1, q9.2)) else some (((-1), q7))) else (if (x1) = 2 then (f_Reader_readHills (px_up q1 5 5 0) ).bind (fun q11 => if (q11 121 7) = (0) then (f_R_takeText q11 x1).bind (fun q13 => some (q13.1, q13.2)) else some (((-1), q11))) else (if (x1) = 3 then (f_Reader_readAfter (px_up q1 5 5 0) ).bind (fun q15 => if (q15 121 7) = (0) then (f_R_takeText q15 x1).bind (fun q17 => some (q17.1, q17.2)) else some (((-1), q15))) else (if (x1) = 4 then (f_Reader_readPlan (px_up q1 5 5 0) ).bind (fun q19 => if (q19 121 7) = (0) then (f_R_takeText q19 x1).bind (fun q21 => some (q21.1, q21.2)) else some (((-1), q19))) else some (((-1), px_up q1 5 5 0)))))))
set_option maxHeartbeats 4000000 in
set_option maxRecDepth 100000 in
theorem c_R_text {sc : List Int} {d : Nat} {s : px_Z} {x1 : Int} {out : Int × px_Z} (h : f_R_text s x1 = some out) : px_D sc (d + 195) 111 0 [(0, .inr (.inr 5)), (1, .inl (x1))] [] (px_G1, s) (px_Qi out) := by
  unfold f_R_text at h
  refine px_D_st 9 (ip1 := 9) (ls1 := [(0, .inr (.inr 5)), (1, .inl (x1))]) (st1 := [.inl (s 6 1), .inl (s 5 5), .inr (.inr 120), .inr (.inr 121)]) (h1 := (px_G1, s)) rfl ?_
  refine px_D_call (as := [.inr (.inr 121), .inr (.inr 120), .inl (s 5 5), .inl (s 6 1)]) (rest := []) rfl rfl rfl rfl ?_
  obtain ⟨q1, hq1, h⟩ := Option.bind_eq_some_iff.mp h
  refine px_D_mono (c_Reader_split (d := d + 192) hq1) ?_
  rintro _ _ ⟨rfl, rfl⟩
  show px_D sc (d + 195) 111 10 [(0, .inr (.inr 5)), (1, .inl (x1))] [] (px_G1, q1) _
  refine px_D_st 4 (ip1 := 14) (ls1 := [(0, .inr (.inr 5)), (1, .inl (x1))]) (st1 := [.inl (x1)]) (h1 := (px_G1, px_up q1 5 5 0)) rfl ?_
  by_cases hc2 : (x1) = 0
  · rw [if_pos hc2] at h
    refine px_D_tsw (c := 0) rfl hc2 (by decide) rfl ?_
    refine px_D_st 3 (ip1 := 18) (ls1 := [(0, .inr (.inr 5)), (1, .inl (x1))]) (st1 := [.inl (1), .inr (.inr 121)]) (h1 := (px_G1, px_up q1 5 5 0)) rfl ?_
    refine px_D_call (as := [.inr (.inr 121), .inl (1)]) (rest := []) rfl rfl rfl rfl ?_
    obtain ⟨q3, hq3, h⟩ := Option.bind_eq_some_iff.mp h
    refine px_D_mono (c_Reader_readLaw (d := d + 0) hq3) ?_
    rintro _ _ ⟨rfl, rfl⟩
    show px_D sc (d + 195) 111 19 [(0, .inr (.inr 5)), (1, .inl (x1))] [] (px_G1, q3) _
    refine px_D_st 4 (ip1 := 42) (ls1 := [(0, .inr (.inr 5)), (1, .inl (x1))]) (st1 := [.inl (q3 121 7)]) (h1 := (px_G1, q3)) rfl ?_
    refine px_D_ifc rfl (fun hc => ?_) (fun hc => ?_)
    · have hc4 : ¬ ((q3 121 7) = (0)) := of_decide_eq_true hc
      rw [if_neg hc4] at h
      refine px_D_st 1 (ip1 := 48) (ls1 := [(0, .inr (.inr 5)), (1, .inl (x1))]) (st1 := [.inl ((-1))]) (h1 := (px_G1, q3)) rfl ?_
      cases h
      exact px_D_iret rfl rfl ⟨rfl, rfl⟩
    · have hc4 : (q3 121 7) = (0) := Decidable.of_not_not (of_decide_eq_false hc)
      rw [if_pos hc4] at h
      refine px_D_st 2 (ip1 := 45) (ls1 := [(0, .inr (.inr 5)), (1, .inl (x1))]) (st1 := [.inl (x1), .inr (.inr 5)]) (h1 := (px_G1, q3)) rfl ?_
      refine px_D_call (as := [.inr (.inr 5), .inl (x1)]) (rest := []) rfl rfl rfl rfl ?_
      obtain ⟨q5, hq5, h⟩ := Option.bind_eq_some_iff.mp h
      refine px_D_mono (c_R_takeText (d := d + 192) hq5) ?_
      rintro _ _ ⟨rfl, rfl⟩
      show px_D sc (d + 195) 111 46 [(0, .inr (.inr 5)), (1, .inl (x1))] [.inl (q5.1)] (px_G1, q5.2) _
      refine px_D_st 1 (ip1 := 48) (ls1 := [(0, .inr (.inr 5)), (1, .inl (x1))]) (st1 := [.inl (q5.1)]) (h1 := (px_G1, q5.2)) rfl ?_
      cases h
      exact px_D_iret rfl rfl ⟨rfl, rfl⟩
  rw [if_neg hc2] at h
  by_cases hc6 : (x1) = 1
  · rw [if_pos hc6] at h
    refine px_D_tsw (c := 1) rfl hc6 (by decide) rfl ?_
    refine px_D_st 3 (ip1 := 23) (ls1 := [(0, .inr (.inr 5)), (1, .inl (x1))]) (st1 := [.inl (0), .inr (.inr 121)]) (h1 := (px_G1, px_up q1 5 5 0)) rfl ?_
    refine px_D_call (as := [.inr (.inr 121), .inl (0)]) (rest := []) rfl rfl rfl rfl ?_
    obtain ⟨q7, hq7, h⟩ := Option.bind_eq_some_iff.mp h
    refine px_D_mono (c_Reader_readLaw (d := d + 0) hq7) ?_
    rintro _ _ ⟨rfl, rfl⟩
    show px_D sc (d + 195) 111 24 [(0, .inr (.inr 5)), (1, .inl (x1))] [] (px_G1, q7) _
    refine px_D_st 4 (ip1 := 42) (ls1 := [(0, .inr (.inr 5)), (1, .inl (x1))]) (st1 := [.inl (q7 121 7)]) (h1 := (px_G1, q7)) rfl ?_
    refine px_D_ifc rfl (fun hc => ?_) (fun hc => ?_)
    · have hc8 : ¬ ((q7 121 7) = (0)) := of_decide_eq_true hc
      rw [if_neg hc8] at h
      refine px_D_st 1 (ip1 := 48) (ls1 := [(0, .inr (.inr 5)), (1, .inl (x1))]) (st1 := [.inl ((-1))]) (h1 := (px_G1, q7)) rfl ?_
      cases h
      exact px_D_iret rfl rfl ⟨rfl, rfl⟩
    · have hc8 : (q7 121 7) = (0) := Decidable.of_not_not (of_decide_eq_false hc)
      rw [if_pos hc8] at h
      refine px_D_st 2 (ip1 := 45) (ls1 := [(0, .inr (.inr 5)), (1, .inl (x1))]) (st1 := [.inl (x1), .inr (.inr 5)]) (h1 := (px_G1, q7)) rfl ?_
      refine px_D_call (as := [.inr (.inr 5), .inl (x1)]) (rest := []) rfl rfl rfl rfl ?_
      obtain ⟨q9, hq9, h⟩ := Option.bind_eq_some_iff.mp h
      refine px_D_mono (c_R_takeText (d := d + 192) hq9) ?_
      rintro _ _ ⟨rfl, rfl⟩
      show px_D sc (d + 195) 111 46 [(0, .inr (.inr 5)), (1, .inl (x1))] [.inl (q9.1)] (px_G1, q9.2) _
      refine px_D_st 1 (ip1 := 48) (ls1 := [(0, .inr (.inr 5)), (1, .inl (x1))]) (st1 := [.inl (q9.1)]) (h1 := (px_G1, q9.2)) rfl ?_
      cases h
      exact px_D_iret rfl rfl ⟨rfl, rfl⟩
  rw [if_neg hc6] at h
  by_cases hc10 : (x1) = 2
  · rw [if_pos hc10] at h
    refine px_D_tsw (c := 2) rfl hc10 (by decide) rfl ?_
    refine px_D_st 2 (ip1 := 27) (ls1 := [(0, .inr (.inr 5)), (1, .inl (x1))]) (st1 := [.inr (.inr 121)]) (h1 := (px_G1, px_up q1 5 5 0)) rfl ?_
    refine px_D_call (as := [.inr (.inr 121)]) (rest := []) rfl rfl rfl rfl ?_
    obtain ⟨q11, hq11, h⟩ := Option.bind_eq_some_iff.mp h
    refine px_D_mono (c_Reader_readHills (d := d + 191) hq11) ?_
    rintro _ _ ⟨rfl, rfl⟩
    show px_D sc (d + 195) 111 28 [(0, .inr (.inr 5)), (1, .inl (x1))] [] (px_G1, q11) _
    refine px_D_st 4 (ip1 := 42) (ls1 := [(0, .inr (.inr 5)), (1, .inl (x1))]) (st1 := [.inl (q11 121 7)]) (h1 := (px_G1, q11)) rfl ?_
    refine px_D_ifc rfl (fun hc => ?_) (fun hc => ?_)
    · have hc12 : ¬ ((q11 121 7) = (0)) := of_decide_eq_true hc
      rw [if_neg hc12] at h
      refine px_D_st 1 (ip1 := 48) (ls1 := [(0, .inr (.inr 5)), (1, .inl (x1))]) (st1 := [.inl ((-1))]) (h1 := (px_G1, q11)) rfl ?_
      cases h
      exact px_D_iret rfl rfl ⟨rfl, rfl⟩
    · have hc12 : (q11 121 7) = (0) := Decidable.of_not_not (of_decide_eq_false hc)
      rw [if_pos hc12] at h
      refine px_D_st 2 (ip1 := 45) (ls1 := [(0, .inr (.inr 5)), (1, .inl (x1))]) (st1 := [.inl (x1), .inr (.inr 5)]) (h1 := (px_G1, q11)) rfl ?_
      refine px_D_call (as := [.inr (.inr 5), .inl (x1)]) (rest := []) rfl rfl rfl rfl ?_
      obtain ⟨q13, hq13, h⟩ := Option.bind_eq_some_iff.mp h
      refine px_D_mono (c_R_takeText (d := d + 192) hq13) ?_
      rintro _ _ ⟨rfl, rfl⟩
      show px_D sc (d + 195) 111 46 [(0, .inr (.inr 5)), (1, .inl (x1))] [.inl (q13.1)] (px_G1, q13.2) _
      refine px_D_st 1 (ip1 := 48) (ls1 := [(0, .inr (.inr 5)), (1, .inl (x1))]) (st1 := [.inl (q13.1)]) (h1 := (px_G1, q13.2)) rfl ?_
      cases h
      exact px_D_iret rfl rfl ⟨rfl, rfl⟩
  rw [if_neg hc10] at h
  by_cases hc14 : (x1) = 3
  · rw [if_pos hc14] at h
    refine px_D_tsw (c := 3) rfl hc14 (by decide) rfl ?_
    refine px_D_st 2 (ip1 := 31) (ls1 := [(0, .inr (.inr 5)), (1, .inl (x1))]) (st1 := [.inr (.inr 121)]) (h1 := (px_G1, px_up q1 5 5 0)) rfl ?_
    refine px_D_call (as := [.inr (.inr 121)]) (rest := []) rfl rfl rfl rfl ?_
    obtain ⟨q15, hq15, h⟩ := Option.bind_eq_some_iff.mp h
    refine px_D_mono (c_Reader_readAfter (d := d + 191) hq15) ?_
    rintro _ _ ⟨rfl, rfl⟩
    show px_D sc (d + 195) 111 32 [(0, .inr (.inr 5)), (1, .inl (x1))] [] (px_G1, q15) _
    refine px_D_st 4 (ip1 := 42) (ls1 := [(0, .inr (.inr 5)), (1, .inl (x1))]) (st1 := [.inl (q15 121 7)]) (h1 := (px_G1, q15)) rfl ?_
    refine px_D_ifc rfl (fun hc => ?_) (fun hc => ?_)
    · have hc16 : ¬ ((q15 121 7) = (0)) := of_decide_eq_true hc
      rw [if_neg hc16] at h
      refine px_D_st 1 (ip1 := 48) (ls1 := [(0, .inr (.inr 5)), (1, .inl (x1))]) (st1 := [.inl ((-1))]) (h1 := (px_G1, q15)) rfl ?_
      cases h
      exact px_D_iret rfl rfl ⟨rfl, rfl⟩
    · have hc16 : (q15 121 7) = (0) := Decidable.of_not_not (of_decide_eq_false hc)
      rw [if_pos hc16] at h
      refine px_D_st 2 (ip1 := 45) (ls1 := [(0, .inr (.inr 5)), (1, .inl (x1))]) (st1 := [.inl (x1), .inr (.inr 5)]) (h1 := (px_G1, q15)) rfl ?_
      refine px_D_call (as := [.inr (.inr 5), .inl (x1)]) (rest := []) rfl rfl rfl rfl ?_
      obtain ⟨q17, hq17, h⟩ := Option.bind_eq_some_iff.mp h
      refine px_D_mono (c_R_takeText (d := d + 192) hq17) ?_
      rintro _ _ ⟨rfl, rfl⟩
      show px_D sc (d + 195) 111 46 [(0, .inr (.inr 5)), (1, .inl (x1))] [.inl (q17.1)] (px_G1, q17.2) _
      refine px_D_st 1 (ip1 := 48) (ls1 := [(0, .inr (.inr 5)), (1, .inl (x1))]) (st1 := [.inl (q17.1)]) (h1 := (px_G1, q17.2)) rfl ?_
      cases h
      exact px_D_iret rfl rfl ⟨rfl, rfl⟩
  rw [if_neg hc14] at h
  by_cases hc18 : (x1) = 4
  · rw [if_pos hc18] at h
    refine px_D_tsw (c := 4) rfl hc18 (by decide) rfl ?_
    refine px_D_st 2 (ip1 := 35) (ls1 := [(0, .inr (.inr 5)), (1, .inl (x1))]) (st1 := [.inr (.inr 121)]) (h1 := (px_G1, px_up q1 5 5 0)) rfl ?_
    refine px_D_call (as := [.inr (.inr 121)]) (rest := []) rfl rfl rfl rfl ?_
    obtain ⟨q19, hq19, h⟩ := Option.bind_eq_some_iff.mp h
    refine px_D_mono (c_Reader_readPlan (d := d + 1) hq19) ?_
    rintro _ _ ⟨rfl, rfl⟩
    show px_D sc (d + 195) 111 36 [(0, .inr (.inr 5)), (1, .inl (x1))] [] (px_G1, q19) _
    refine px_D_st 4 (ip1 := 42) (ls1 := [(0, .inr (.inr 5)), (1, .inl (x1))]) (st1 := [.inl (q19 121 7)]) (h1 := (px_G1, q19)) rfl ?_
    refine px_D_ifc rfl (fun hc => ?_) (fun hc => ?_)
    · have hc20 : ¬ ((q19 121 7) = (0)) := of_decide_eq_true hc
      rw [if_neg hc20] at h
      refine px_D_st 1 (ip1 := 48) (ls1 := [(0, .inr (.inr 5)), (1, .inl (x1))]) (st1 := [.inl ((-1))]) (h1 := (px_G1, q19)) rfl ?_
      cases h
      exact px_D_iret rfl rfl ⟨rfl, rfl⟩
    · have hc20 : (q19 121 7) = (0) := Decidable.of_not_not (of_decide_eq_false hc)
      rw [if_pos hc20] at h
      refine px_D_st 2 (ip1 := 45) (ls1 := [(0, .inr (.inr 5)), (1, .inl (x1))]) (st1 := [.inl (x1), .inr (.inr 5)]) (h1 := (px_G1, q19)) rfl ?_
      refine px_D_call (as := [.inr (.inr 5), .inl (x1)]) (rest := []) rfl rfl rfl rfl ?_
      obtain ⟨q21, hq21, h⟩ := Option.bind_eq_some_iff.mp h
      refine px_D_mono (c_R_takeText (d := d + 192) hq21) ?_
      rintro _ _ ⟨rfl, rfl⟩
      show px_D sc (d + 195) 111 46 [(0, .inr (.inr 5)), (1, .inl (x1))] [.inl (q21.1)] (px_G1, q21.2) _
      refine px_D_st 1 (ip1 := 48) (ls1 := [(0, .inr (.inr 5)), (1, .inl (x1))]) (st1 := [.inl (q21.1)]) (h1 := (px_G1, q21.2)) rfl ?_
      cases h
      exact px_D_iret rfl rfl ⟨rfl, rfl⟩
  rw [if_neg hc18] at h
  refine px_D_tswD rfl (by omega) ?_
  refine px_D_st 1 (ip1 := 38) (ls1 := [(0, .inr (.inr 5)), (1, .inl (x1))]) (st1 := [.inl ((-1))]) (h1 := (px_G1, px_up q1 5 5 0)) rfl ?_
  cases h
  exact px_D_iret rfl rfl ⟨rfl, rfl⟩

def f_R_fault (s : px_Z) (x1 : Int) : Int := if (x1) = (0) then s 121 7 else (if (x1) = (1) then s 121 8 else (-1))
set_option maxHeartbeats 4000000 in
set_option maxRecDepth 100000 in
theorem c_R_fault {sc : List Int} {d : Nat} {s : px_Z} {x1 : Int} {out : Int} (h : f_R_fault s x1 = out) : px_D sc (d + 0) 113 0 [(0, .inr (.inr 5)), (1, .inl (x1))] [] (px_G1, s) (px_Qp s out) := by
  unfold f_R_fault at h
  refine px_D_st 1 (ip1 := 1) (ls1 := [(0, .inr (.inr 5)), (1, .inl (x1))]) (st1 := [.inl (x1)]) (h1 := (px_G1, s)) rfl ?_
  refine px_D_ifc rfl (fun hc => ?_) (fun hc => ?_)
  · have hc1 : ¬ ((x1) = (0)) := of_decide_eq_true hc
    rw [if_neg hc1] at h
    refine px_D_st 2 (ip1 := 8) (ls1 := [(0, .inr (.inr 5)), (1, .inl (x1))]) (st1 := [.inl (1), .inl (x1)]) (h1 := (px_G1, s)) rfl ?_
    refine px_D_icmp rfl (fun hc => ?_) (fun hc => ?_)
    · have hc2 : ¬ ((x1) = (1)) := of_decide_eq_true hc
      rw [if_neg hc2] at h
      refine px_D_st 1 (ip1 := 14) (ls1 := [(0, .inr (.inr 5)), (1, .inl (x1))]) (st1 := [.inl ((-1))]) (h1 := (px_G1, s)) rfl ?_
      subst h
      exact px_D_iret rfl rfl ⟨rfl, rfl⟩
    · have hc2 : (x1) = (1) := Decidable.of_not_not (of_decide_eq_false hc)
      rw [if_pos hc2] at h
      refine px_D_st 4 (ip1 := 14) (ls1 := [(0, .inr (.inr 5)), (1, .inl (x1))]) (st1 := [.inl (s 121 8)]) (h1 := (px_G1, s)) rfl ?_
      subst h
      exact px_D_iret rfl rfl ⟨rfl, rfl⟩
  · have hc1 : (x1) = (0) := Decidable.of_not_not (of_decide_eq_false hc)
    rw [if_pos hc1] at h
    refine px_D_st 3 (ip1 := 5) (ls1 := [(0, .inr (.inr 5)), (1, .inl (x1))]) (st1 := [.inl (s 121 7)]) (h1 := (px_G1, s)) rfl ?_
    subst h
    exact px_D_iret rfl rfl ⟨rfl, rfl⟩

def f_Fate_become (s : px_Z) : Option (px_Z) := if ((px_up (px_up (px_up (px_up (px_up (px_up s 90 0 (s 7 0)) 90 1 ((px_up s 90 0 (s 7 0)) 7 1)) 90 2 ((px_up (px_up s 90 0 (s 7 0)) 90 1 ((px_up s 90 0 (s 7 0)) 7 1)) 7 2)) 90 3 ((px_up (px_up (px_up s 90 0 (s 7 0)) 90 1 ((px_up s 90 0 (s 7 0)) 7 1)) 90 2 ((px_up (px_up s 90 0 (s 7 0)) 90 1 ((px_up s 90 0 (s 7 0)) 7 1)) 7 2)) 7 3)) 90 4 ((px_up (px_up (px_up (px_up s 90 0 (s 7 0)) 90 1 ((px_up s 90 0 (s 7 0)) 7 1)) 90 2 ((px_up (px_up s 90 0 (s 7 0)) 90 1 ((px_up s 90 0 (s 7 0)) 7 1)) 7 2)) 90 3 ((px_up (px_up (px_up s 90 0 (s 7 0)) 90 1 ((px_up s 90 0 (s 7 0)) 7 1)) 90 2 ((px_up (px_up s 90 0 (s 7 0)) 90 1 ((px_up s 90 0 (s 7 0)) 7 1)) 7 2)) 7 3)) 7 4)) 90 5 ((px_up (px_up (px_up (px_up (px_up s 90 0 (s 7 0)) 90 1 ((px_up s 90 0 (s 7 0)) 7 1)) 90 2 ((px_up (px_up s 90 0 (s 7 0)) 90 1 ((px_up s 90 0 (s 7 0)) 7 1)) 7 2)) 90 3 ((px_up (px_up (px_up s 90 0 (s 7 0)) 90 1 ((px_up s 90 0 (s 7 0)) 7 1)) 90 2 ((px_up (px_up s 90 0 (s 7 0)) 90 1 ((px_up s 90 0 (s 7 0)) 7 1)) 7 2)) 7 3)) 90 4 ((px_up (px_up (px_up (px_up s 90 0 (s 7 0)) 90 1 ((px_up s 90 0 (s 7 0)) 7 1)) 90 2 ((px_up (px_up s 90 0 (s 7 0)) 90 1 ((px_up s 90 0 (s 7 0)) 7 1)) 7 2)) 90 3 ((px_up (px_up (px_up s 90 0 (s 7 0)) 90 1 ((px_up s 90 0 (s 7 0)) 7 1)) 90 2 ((px_up (px_up s 90 0 (s 7 0)) 90 1 ((px_up s 90 0 (s 7 0)) 7 1)) 7 2)) 7 3)) 7 4)) 7 5)) 7 6) = 0 ∨ ((px_up (px_up (px_up (px_up (px_up (px_up s 90 0 (s 7 0)) 90 1 ((px_up s 90 0 (s 7 0)) 7 1)) 90 2 ((px_up (px_up s 90 0 (s 7 0)) 90 1 ((px_up s 90 0 (s 7 0)) 7 1)) 7 2)) 90 3 ((px_up (px_up (px_up s 90 0 (s 7 0)) 90 1 ((px_up s 90 0 (s 7 0)) 7 1)) 90 2 ((px_up (px_up s 90 0 (s 7 0)) 90 1 ((px_up s 90 0 (s 7 0)) 7 1)) 7 2)) 7 3)) 90 4 ((px_up (px_up (px_up (px_up s 90 0 (s 7 0)) 90 1 ((px_up s 90 0 (s 7 0)) 7 1)) 90 2 ((px_up (px_up s 90 0 (s 7 0)) 90 1 ((px_up s 90 0 (s 7 0)) 7 1)) 7 2)) 90 3 ((px_up (px_up (px_up s 90 0 (s 7 0)) 90 1 ((px_up s 90 0 (s 7 0)) 7 1)) 90 2 ((px_up (px_up s 90 0 (s 7 0)) 90 1 ((px_up s 90 0 (s 7 0)) 7 1)) 7 2)) 7 3)) 7 4)) 90 5 ((px_up (px_up (px_up (px_up (px_up s 90 0 (s 7 0)) 90 1 ((px_up s 90 0 (s 7 0)) 7 1)) 90 2 ((px_up (px_up s 90 0 (s 7 0)) 90 1 ((px_up s 90 0 (s 7 0)) 7 1)) 7 2)) 90 3 ((px_up (px_up (px_up s 90 0 (s 7 0)) 90 1 ((px_up s 90 0 (s 7 0)) 7 1)) 90 2 ((px_up (px_up s 90 0 (s 7 0)) 90 1 ((px_up s 90 0 (s 7 0)) 7 1)) 7 2)) 7 3)) 90 4 ((px_up (px_up (px_up (px_up s 90 0 (s 7 0)) 90 1 ((px_up s 90 0 (s 7 0)) 7 1)) 90 2 ((px_up (px_up s 90 0 (s 7 0)) 90 1 ((px_up s 90 0 (s 7 0)) 7 1)) 7 2)) 90 3 ((px_up (px_up (px_up s 90 0 (s 7 0)) 90 1 ((px_up s 90 0 (s 7 0)) 7 1)) 90 2 ((px_up (px_up s 90 0 (s 7 0)) 90 1 ((px_up s 90 0 (s 7 0)) 7 1)) 7 2)) 7 3)) 7 4)) 7 5)) 7 6) = 1 then some (px_cp (px_cp (px_cp (px_cp (px_up (px_up (px_up (px_up (px_up (px_up (px_up (px_up s 90 0 (s 7 0)) 90 1 ((px_up s 90 0 (s 7 0)) 7 1)) 90 2 ((px_up (px_up s 90 0 (s 7 0)) 90 1 ((px_up s 90 0 (s 7 0)) 7 1)) 7 2)) 90 3 ((px_up (px_up (px_up s 90 0 (s 7 0)) 90 1 ((px_up s 90 0 (s 7 0)) 7 1)) 90 2 ((px_up (px_up s 90 0 (s 7 0)) 90 1 ((px_up s 90 0 (s 7 0)) 7 1)) 7 2)) 7 3)) 90 4 ((px_up (px_up (px_up (px_up s 90 0 (s 7 0)) 90 1 ((px_up s 90 0 (s 7 0)) 7 1)) 90 2 ((px_up (px_up s 90 0 (s 7 0)) 90 1 ((px_up s 90 0 (s 7 0)) 7 1)) 7 2)) 90 3 ((px_up (px_up (px_up s 90 0 (s 7 0)) 90 1 ((px_up s 90 0 (s 7 0)) 7 1)) 90 2 ((px_up (px_up s 90 0 (s 7 0)) 90 1 ((px_up s 90 0 (s 7 0)) 7 1)) 7 2)) 7 3)) 7 4)) 90 5 ((px_up (px_up (px_up (px_up (px_up s 90 0 (s 7 0)) 90 1 ((px_up s 90 0 (s 7 0)) 7 1)) 90 2 ((px_up (px_up s 90 0 (s 7 0)) 90 1 ((px_up s 90 0 (s 7 0)) 7 1)) 7 2)) 90 3 ((px_up (px_up (px_up s 90 0 (s 7 0)) 90 1 ((px_up s 90 0 (s 7 0)) 7 1)) 90 2 ((px_up (px_up s 90 0 (s 7 0)) 90 1 ((px_up s 90 0 (s 7 0)) 7 1)) 7 2)) 7 3)) 90 4 ((px_up (px_up (px_up (px_up s 90 0 (s 7 0)) 90 1 ((px_up s 90 0 (s 7 0)) 7 1)) 90 2 ((px_up (px_up s 90 0 (s 7 0)) 90 1 ((px_up s 90 0 (s 7 0)) 7 1)) 7 2)) 90 3 ((px_up (px_up (px_up s 90 0 (s 7 0)) 90 1 ((px_up s 90 0 (s 7 0)) 7 1)) 90 2 ((px_up (px_up s 90 0 (s 7 0)) 90 1 ((px_up s 90 0 (s 7 0)) 7 1)) 7 2)) 7 3)) 7 4)) 7 5)) 90 6 ((px_up (px_up (px_up (px_up (px_up (px_up s 90 0 (s 7 0)) 90 1 ((px_up s 90 0 (s 7 0)) 7 1)) 90 2 ((px_up (px_up s 90 0 (s 7 0)) 90 1 ((px_up s 90 0 (s 7 0)) 7 1)) 7 2)) 90 3 ((px_up (px_up (px_up s 90 0 (s 7 0)) 90 1 ((px_up s 90 0 (s 7 0)) 7 1)) 90 2 ((px_up (px_up s 90 0 (s 7 0)) 90 1 ((px_up s 90 0 (s 7 0)) 7 1)) 7 2)) 7 3)) 90 4 ((px_up (px_up (px_up (px_up s 90 0 (s 7 0)) 90 1 ((px_up s 90 0 (s 7 0)) 7 1)) 90 2 ((px_up (px_up s 90 0 (s 7 0)) 90 1 ((px_up s 90 0 (s 7 0)) 7 1)) 7 2)) 90 3 ((px_up (px_up (px_up s 90 0 (s 7 0)) 90 1 ((px_up s 90 0 (s 7 0)) 7 1)) 90 2 ((px_up (px_up s 90 0 (s 7 0)) 90 1 ((px_up s 90 0 (s 7 0)) 7 1)) 7 2)) 7 3)) 7 4)) 90 5 ((px_up (px_up (px_up (px_up (px_up s 90 0 (s 7 0)) 90 1 ((px_up s 90 0 (s 7 0)) 7 1)) 90 2 ((px_up (px_up s 90 0 (s 7 0)) 90 1 ((px_up s 90 0 (s 7 0)) 7 1)) 7 2)) 90 3 ((px_up (px_up (px_up s 90 0 (s 7 0)) 90 1 ((px_up s 90 0 (s 7 0)) 7 1)) 90 2 ((px_up (px_up s 90 0 (s 7 0)) 90 1 ((px_up s 90 0 (s 7 0)) 7 1)) 7 2)) 7 3)) 90 4 ((px_up (px_up (px_up (px_up s 90 0 (s 7 0)) 90 1 ((px_up s 90 0 (s 7 0)) 7 1)) 90 2 ((px_up (px_up s 90 0 (s 7 0)) 90 1 ((px_up s 90 0 (s 7 0)) 7 1)) 7 2)) 90 3 ((px_up (px_up (px_up s 90 0 (s 7 0)) 90 1 ((px_up s 90 0 (s 7 0)) 7 1)) 90 2 ((px_up (px_up s 90 0 (s 7 0)) 90 1 ((px_up s 90 0 (s 7 0)) 7 1)) 7 2)) 7 3)) 7 4)) 7 5)) 7 6)) 90 7 ((px_up (px_up (px_up (px_up (px_up (px_up (px_up s 90 0 (s 7 0)) 90 1 ((px_up s 90 0 (s 7 0)) 7 1)) 90 2 ((px_up (px_up s 90 0 (s 7 0)) 90 1 ((px_up s 90 0 (s 7 0)) 7 1)) 7 2)) 90 3 ((px_up (px_up (px_up s 90 0 (s 7 0)) 90 1 ((px_up s 90 0 (s 7 0)) 7 1)) 90 2 ((px_up (px_up s 90 0 (s 7 0)) 90 1 ((px_up s 90 0 (s 7 0)) 7 1)) 7 2)) 7 3)) 90 4 ((px_up (px_up (px_up (px_up s 90 0 (s 7 0)) 90 1 ((px_up s 90 0 (s 7 0)) 7 1)) 90 2 ((px_up (px_up s 90 0 (s 7 0)) 90 1 ((px_up s 90 0 (s 7 0)) 7 1)) 7 2)) 90 3 ((px_up (px_up (px_up s 90 0 (s 7 0)) 90 1 ((px_up s 90 0 (s 7 0)) 7 1)) 90 2 ((px_up (px_up s 90 0 (s 7 0)) 90 1 ((px_up s 90 0 (s 7 0)) 7 1)) 7 2)) 7 3)) 7 4)) 90 5 ((px_up (px_up (px_up (px_up (px_up s 90 0 (s 7 0)) 90 1 ((px_up s 90 0 (s 7 0)) 7 1)) 90 2 ((px_up (px_up s 90 0 (s 7 0)) 90 1 ((px_up s 90 0 (s 7 0)) 7 1)) 7 2)) 90 3 ((px_up (px_up (px_up s 90 0 (s 7 0)) 90 1 ((px_up s 90 0 (s 7 0)) 7 1)) 90 2 ((px_up (px_up s 90 0 (s 7 0)) 90 1 ((px_up s 90 0 (s 7 0)) 7 1)) 7 2)) 7 3)) 90 4 ((px_up (px_up (px_up (px_up s 90 0 (s 7 0)) 90 1 ((px_up s 90 0 (s 7 0)) 7 1)) 90 2 ((px_up (px_up s 90 0 (s 7 0)) 90 1 ((px_up s 90 0 (s 7 0)) 7 1)) 7 2)) 90 3 ((px_up (px_up (px_up s 90 0 (s 7 0)) 90 1 ((px_up s 90 0 (s 7 0)) 7 1)) 90 2 ((px_up (px_up s 90 0 (s 7 0)) 90 1 ((px_up s 90 0 (s 7 0)) 7 1)) 7 2)) 7 3)) 7 4)) 7 5)) 90 6 ((px_up (px_up (px_up (px_up (px_up (px_up s 90 0 (s 7 0)) 90 1 ((px_up s 90 0 (s 7 0)) 7 1)) 90 2 ((px_up (px_up s 90 0 (s 7 0)) 90 1 ((px_up s 90 0 (s 7 0)) 7 1)) 7 2)) 90 3 ((px_up (px_up (px_up s 90 0 (s 7 0)) 90 1 ((px_up s 90 0 (s 7 0)) 7 1)) 90 2 ((px_up (px_up s 90 0 (s 7 0)) 90 1 ((px_up s 90 0 (s 7 0)) 7 1)) 7 2)) 7 3)) 90 4 ((px_up (px_up (px_up (px_up s 90 0 (s 7 0)) 90 1 ((px_up s 90 0 (s 7 0)) 7 1)) 90 2 ((px_up (px_up s 90 0 (s 7 0)) 90 1 ((px_up s 90 0 (s 7 0)) 7 1)) 7 2)) 90 3 ((px_up (px_up (px_up s 90 0 (s 7 0)) 90 1 ((px_up s 90 0 (s 7 0)) 7 1)) 90 2 ((px_up (px_up s 90 0 (s 7 0)) 90 1 ((px_up s 90 0 (s 7 0)) 7 1)) 7 2)) 7 3)) 7 4)) 90 5 ((px_up (px_up (px_up (px_up (px_up s 90 0 (s 7 0)) 90 1 ((px_up s 90 0 (s 7 0)) 7 1)) 90 2 ((px_up (px_up s 90 0 (s 7 0)) 90 1 ((px_up s 90 0 (s 7 0)) 7 1)) 7 2)) 90 3 ((px_up (px_up (px_up s 90 0 (s 7 0)) 90 1 ((px_up s 90 0 (s 7 0)) 7 1)) 90 2 ((px_up (px_up s 90 0 (s 7 0)) 90 1 ((px_up s 90 0 (s 7 0)) 7 1)) 7 2)) 7 3)) 90 4 ((px_up (px_up (px_up (px_up s 90 0 (s 7 0)) 90 1 ((px_up s 90 0 (s 7 0)) 7 1)) 90 2 ((px_up (px_up s 90 0 (s 7 0)) 90 1 ((px_up s 90 0 (s 7 0)) 7 1)) 7 2)) 90 3 ((px_up (px_up (px_up s 90 0 (s 7 0)) 90 1 ((px_up s 90 0 (s 7 0)) 7 1)) 90 2 ((px_up (px_up s 90 0 (s 7 0)) 90 1 ((px_up s 90 0 (s 7 0)) 7 1)) 7 2)) 7 3)) 7 4)) 7 5)) 7 6)) 7 7)) 8 91 0 0 8) 9 92 0 0 8) 10 93 0 0 8) 11 94 0 0 8) else none
set_option maxHeartbeats 4000000 in
set_option maxRecDepth 100000 in
theorem c_Fate_become {sc : List Int} {d : Nat} {s : px_Z} {out : px_Z} (h : f_Fate_become s  = some out) : px_D sc (d + 0) 1 0 [(0, .inr (.inr 90)), (1, .inr (.inr 7))] [] (px_G1, s) (px_Qv out) := by
  unfold f_Fate_become at h
  refine px_D_st 27 (ip1 := 27) (ls1 := [(0, .inr (.inr 90)), (1, .inr (.inr 7))]) (st1 := [.inl ((px_up (px_up (px_up (px_up (px_up (px_up s 90 0 (s 7 0)) 90 1 ((px_up s 90 0 (s 7 0)) 7 1)) 90 2 ((px_up (px_up s 90 0 (s 7 0)) 90 1 ((px_up s 90 0 (s 7 0)) 7 1)) 7 2)) 90 3 ((px_up (px_up (px_up s 90 0 (s 7 0)) 90 1 ((px_up s 90 0 (s 7 0)) 7 1)) 90 2 ((px_up (px_up s 90 0 (s 7 0)) 90 1 ((px_up s 90 0 (s 7 0)) 7 1)) 7 2)) 7 3)) 90 4 ((px_up (px_up (px_up (px_up s 90 0 (s 7 0)) 90 1 ((px_up s 90 0 (s 7 0)) 7 1)) 90 2 ((px_up (px_up s 90 0 (s 7 0)) 90 1 ((px_up s 90 0 (s 7 0)) 7 1)) 7 2)) 90 3 ((px_up (px_up (px_up s 90 0 (s 7 0)) 90 1 ((px_up s 90 0 (s 7 0)) 7 1)) 90 2 ((px_up (px_up s 90 0 (s 7 0)) 90 1 ((px_up s 90 0 (s 7 0)) 7 1)) 7 2)) 7 3)) 7 4)) 90 5 ((px_up (px_up (px_up (px_up (px_up s 90 0 (s 7 0)) 90 1 ((px_up s 90 0 (s 7 0)) 7 1)) 90 2 ((px_up (px_up s 90 0 (s 7 0)) 90 1 ((px_up s 90 0 (s 7 0)) 7 1)) 7 2)) 90 3 ((px_up (px_up (px_up s 90 0 (s 7 0)) 90 1 ((px_up s 90 0 (s 7 0)) 7 1)) 90 2 ((px_up (px_up s 90 0 (s 7 0)) 90 1 ((px_up s 90 0 (s 7 0)) 7 1)) 7 2)) 7 3)) 90 4 ((px_up (px_up (px_up (px_up s 90 0 (s 7 0)) 90 1 ((px_up s 90 0 (s 7 0)) 7 1)) 90 2 ((px_up (px_up s 90 0 (s 7 0)) 90 1 ((px_up s 90 0 (s 7 0)) 7 1)) 7 2)) 90 3 ((px_up (px_up (px_up s 90 0 (s 7 0)) 90 1 ((px_up s 90 0 (s 7 0)) 7 1)) 90 2 ((px_up (px_up s 90 0 (s 7 0)) 90 1 ((px_up s 90 0 (s 7 0)) 7 1)) 7 2)) 7 3)) 7 4)) 7 5)) 7 6), .inr (.inr 90)]) (h1 := (px_G1, px_up (px_up (px_up (px_up (px_up (px_up s 90 0 (s 7 0)) 90 1 ((px_up s 90 0 (s 7 0)) 7 1)) 90 2 ((px_up (px_up s 90 0 (s 7 0)) 90 1 ((px_up s 90 0 (s 7 0)) 7 1)) 7 2)) 90 3 ((px_up (px_up (px_up s 90 0 (s 7 0)) 90 1 ((px_up s 90 0 (s 7 0)) 7 1)) 90 2 ((px_up (px_up s 90 0 (s 7 0)) 90 1 ((px_up s 90 0 (s 7 0)) 7 1)) 7 2)) 7 3)) 90 4 ((px_up (px_up (px_up (px_up s 90 0 (s 7 0)) 90 1 ((px_up s 90 0 (s 7 0)) 7 1)) 90 2 ((px_up (px_up s 90 0 (s 7 0)) 90 1 ((px_up s 90 0 (s 7 0)) 7 1)) 7 2)) 90 3 ((px_up (px_up (px_up s 90 0 (s 7 0)) 90 1 ((px_up s 90 0 (s 7 0)) 7 1)) 90 2 ((px_up (px_up s 90 0 (s 7 0)) 90 1 ((px_up s 90 0 (s 7 0)) 7 1)) 7 2)) 7 3)) 7 4)) 90 5 ((px_up (px_up (px_up (px_up (px_up s 90 0 (s 7 0)) 90 1 ((px_up s 90 0 (s 7 0)) 7 1)) 90 2 ((px_up (px_up s 90 0 (s 7 0)) 90 1 ((px_up s 90 0 (s 7 0)) 7 1)) 7 2)) 90 3 ((px_up (px_up (px_up s 90 0 (s 7 0)) 90 1 ((px_up s 90 0 (s 7 0)) 7 1)) 90 2 ((px_up (px_up s 90 0 (s 7 0)) 90 1 ((px_up s 90 0 (s 7 0)) 7 1)) 7 2)) 7 3)) 90 4 ((px_up (px_up (px_up (px_up s 90 0 (s 7 0)) 90 1 ((px_up s 90 0 (s 7 0)) 7 1)) 90 2 ((px_up (px_up s 90 0 (s 7 0)) 90 1 ((px_up s 90 0 (s 7 0)) 7 1)) 7 2)) 90 3 ((px_up (px_up (px_up s 90 0 (s 7 0)) 90 1 ((px_up s 90 0 (s 7 0)) 7 1)) 90 2 ((px_up (px_up s 90 0 (s 7 0)) 90 1 ((px_up s 90 0 (s 7 0)) 7 1)) 7 2)) 7 3)) 7 4)) 7 5))) rfl ?_
  by_cases hc1 : ((px_up (px_up (px_up (px_up (px_up (px_up s 90 0 (s 7 0)) 90 1 ((px_up s 90 0 (s 7 0)) 7 1)) 90 2 ((px_up (px_up s 90 0 (s 7 0)) 90 1 ((px_up s 90 0 (s 7 0)) 7 1)) 7 2)) 90 3 ((px_up (px_up (px_up s 90 0 (s 7 0)) 90 1 ((px_up s 90 0 (s 7 0)) 7 1)) 90 2 ((px_up (px_up s 90 0 (s 7 0)) 90 1 ((px_up s 90 0 (s 7 0)) 7 1)) 7 2)) 7 3)) 90 4 ((px_up (px_up (px_up (px_up s 90 0 (s 7 0)) 90 1 ((px_up s 90 0 (s 7 0)) 7 1)) 90 2 ((px_up (px_up s 90 0 (s 7 0)) 90 1 ((px_up s 90 0 (s 7 0)) 7 1)) 7 2)) 90 3 ((px_up (px_up (px_up s 90 0 (s 7 0)) 90 1 ((px_up s 90 0 (s 7 0)) 7 1)) 90 2 ((px_up (px_up s 90 0 (s 7 0)) 90 1 ((px_up s 90 0 (s 7 0)) 7 1)) 7 2)) 7 3)) 7 4)) 90 5 ((px_up (px_up (px_up (px_up (px_up s 90 0 (s 7 0)) 90 1 ((px_up s 90 0 (s 7 0)) 7 1)) 90 2 ((px_up (px_up s 90 0 (s 7 0)) 90 1 ((px_up s 90 0 (s 7 0)) 7 1)) 7 2)) 90 3 ((px_up (px_up (px_up s 90 0 (s 7 0)) 90 1 ((px_up s 90 0 (s 7 0)) 7 1)) 90 2 ((px_up (px_up s 90 0 (s 7 0)) 90 1 ((px_up s 90 0 (s 7 0)) 7 1)) 7 2)) 7 3)) 90 4 ((px_up (px_up (px_up (px_up s 90 0 (s 7 0)) 90 1 ((px_up s 90 0 (s 7 0)) 7 1)) 90 2 ((px_up (px_up s 90 0 (s 7 0)) 90 1 ((px_up s 90 0 (s 7 0)) 7 1)) 7 2)) 90 3 ((px_up (px_up (px_up s 90 0 (s 7 0)) 90 1 ((px_up s 90 0 (s 7 0)) 7 1)) 90 2 ((px_up (px_up s 90 0 (s 7 0)) 90 1 ((px_up s 90 0 (s 7 0)) 7 1)) 7 2)) 7 3)) 7 4)) 7 5)) 7 6) = 0 ∨ ((px_up (px_up (px_up (px_up (px_up (px_up s 90 0 (s 7 0)) 90 1 ((px_up s 90 0 (s 7 0)) 7 1)) 90 2 ((px_up (px_up s 90 0 (s 7 0)) 90 1 ((px_up s 90 0 (s 7 0)) 7 1)) 7 2)) 90 3 ((px_up (px_up (px_up s 90 0 (s 7 0)) 90 1 ((px_up s 90 0 (s 7 0)) 7 1)) 90 2 ((px_up (px_up s 90 0 (s 7 0)) 90 1 ((px_up s 90 0 (s 7 0)) 7 1)) 7 2)) 7 3)) 90 4 ((px_up (px_up (px_up (px_up s 90 0 (s 7 0)) 90 1 ((px_up s 90 0 (s 7 0)) 7 1)) 90 2 ((px_up (px_up s 90 0 (s 7 0)) 90 1 ((px_up s 90 0 (s 7 0)) 7 1)) 7 2)) 90 3 ((px_up (px_up (px_up s 90 0 (s 7 0)) 90 1 ((px_up s 90 0 (s 7 0)) 7 1)) 90 2 ((px_up (px_up s 90 0 (s 7 0)) 90 1 ((px_up s 90 0 (s 7 0)) 7 1)) 7 2)) 7 3)) 7 4)) 90 5 ((px_up (px_up (px_up (px_up (px_up s 90 0 (s 7 0)) 90 1 ((px_up s 90 0 (s 7 0)) 7 1)) 90 2 ((px_up (px_up s 90 0 (s 7 0)) 90 1 ((px_up s 90 0 (s 7 0)) 7 1)) 7 2)) 90 3 ((px_up (px_up (px_up s 90 0 (s 7 0)) 90 1 ((px_up s 90 0 (s 7 0)) 7 1)) 90 2 ((px_up (px_up s 90 0 (s 7 0)) 90 1 ((px_up s 90 0 (s 7 0)) 7 1)) 7 2)) 7 3)) 90 4 ((px_up (px_up (px_up (px_up s 90 0 (s 7 0)) 90 1 ((px_up s 90 0 (s 7 0)) 7 1)) 90 2 ((px_up (px_up s 90 0 (s 7 0)) 90 1 ((px_up s 90 0 (s 7 0)) 7 1)) 7 2)) 90 3 ((px_up (px_up (px_up s 90 0 (s 7 0)) 90 1 ((px_up s 90 0 (s 7 0)) 7 1)) 90 2 ((px_up (px_up s 90 0 (s 7 0)) 90 1 ((px_up s 90 0 (s 7 0)) 7 1)) 7 2)) 7 3)) 7 4)) 7 5)) 7 6) = 1
  case neg => rw [if_neg hc1] at h; cases h
  rw [if_pos hc1] at h
  refine px_D_putz (k := 85) rfl rfl rfl rfl hc1 ?_
  refine px_D_st 36 (ip1 := 64) (ls1 := [(0, .inr (.inr 90)), (1, .inr (.inr 7))]) (st1 := []) (h1 := (px_G1, px_cp (px_cp (px_cp (px_cp (px_up (px_up (px_up (px_up (px_up (px_up (px_up (px_up s 90 0 (s 7 0)) 90 1 ((px_up s 90 0 (s 7 0)) 7 1)) 90 2 ((px_up (px_up s 90 0 (s 7 0)) 90 1 ((px_up s 90 0 (s 7 0)) 7 1)) 7 2)) 90 3 ((px_up (px_up (px_up s 90 0 (s 7 0)) 90 1 ((px_up s 90 0 (s 7 0)) 7 1)) 90 2 ((px_up (px_up s 90 0 (s 7 0)) 90 1 ((px_up s 90 0 (s 7 0)) 7 1)) 7 2)) 7 3)) 90 4 ((px_up (px_up (px_up (px_up s 90 0 (s 7 0)) 90 1 ((px_up s 90 0 (s 7 0)) 7 1)) 90 2 ((px_up (px_up s 90 0 (s 7 0)) 90 1 ((px_up s 90 0 (s 7 0)) 7 1)) 7 2)) 90 3 ((px_up (px_up (px_up s 90 0 (s 7 0)) 90 1 ((px_up s 90 0 (s 7 0)) 7 1)) 90 2 ((px_up (px_up s 90 0 (s 7 0)) 90 1 ((px_up s 90 0 (s 7 0)) 7 1)) 7 2)) 7 3)) 7 4)) 90 5 ((px_up (px_up (px_up (px_up (px_up s 90 0 (s 7 0)) 90 1 ((px_up s 90 0 (s 7 0)) 7 1)) 90 2 ((px_up (px_up s 90 0 (s 7 0)) 90 1 ((px_up s 90 0 (s 7 0)) 7 1)) 7 2)) 90 3 ((px_up (px_up (px_up s 90 0 (s 7 0)) 90 1 ((px_up s 90 0 (s 7 0)) 7 1)) 90 2 ((px_up (px_up s 90 0 (s 7 0)) 90 1 ((px_up s 90 0 (s 7 0)) 7 1)) 7 2)) 7 3)) 90 4 ((px_up (px_up (px_up (px_up s 90 0 (s 7 0)) 90 1 ((px_up s 90 0 (s 7 0)) 7 1)) 90 2 ((px_up (px_up s 90 0 (s 7 0)) 90 1 ((px_up s 90 0 (s 7 0)) 7 1)) 7 2)) 90 3 ((px_up (px_up (px_up s 90 0 (s 7 0)) 90 1 ((px_up s 90 0 (s 7 0)) 7 1)) 90 2 ((px_up (px_up s 90 0 (s 7 0)) 90 1 ((px_up s 90 0 (s 7 0)) 7 1)) 7 2)) 7 3)) 7 4)) 7 5)) 90 6 ((px_up (px_up (px_up (px_up (px_up (px_up s 90 0 (s 7 0)) 90 1 ((px_up s 90 0 (s 7 0)) 7 1)) 90 2 ((px_up (px_up s 90 0 (s 7 0)) 90 1 ((px_up s 90 0 (s 7 0)) 7 1)) 7 2)) 90 3 ((px_up (px_up (px_up s 90 0 (s 7 0)) 90 1 ((px_up s 90 0 (s 7 0)) 7 1)) 90 2 ((px_up (px_up s 90 0 (s 7 0)) 90 1 ((px_up s 90 0 (s 7 0)) 7 1)) 7 2)) 7 3)) 90 4 ((px_up (px_up (px_up (px_up s 90 0 (s 7 0)) 90 1 ((px_up s 90 0 (s 7 0)) 7 1)) 90 2 ((px_up (px_up s 90 0 (s 7 0)) 90 1 ((px_up s 90 0 (s 7 0)) 7 1)) 7 2)) 90 3 ((px_up (px_up (px_up s 90 0 (s 7 0)) 90 1 ((px_up s 90 0 (s 7 0)) 7 1)) 90 2 ((px_up (px_up s 90 0 (s 7 0)) 90 1 ((px_up s 90 0 (s 7 0)) 7 1)) 7 2)) 7 3)) 7 4)) 90 5 ((px_up (px_up (px_up (px_up (px_up s 90 0 (s 7 0)) 90 1 ((px_up s 90 0 (s 7 0)) 7 1)) 90 2 ((px_up (px_up s 90 0 (s 7 0)) 90 1 ((px_up s 90 0 (s 7 0)) 7 1)) 7 2)) 90 3 ((px_up (px_up (px_up s 90 0 (s 7 0)) 90 1 ((px_up s 90 0 (s 7 0)) 7 1)) 90 2 ((px_up (px_up s 90 0 (s 7 0)) 90 1 ((px_up s 90 0 (s 7 0)) 7 1)) 7 2)) 7 3)) 90 4 ((px_up (px_up (px_up (px_up s 90 0 (s 7 0)) 90 1 ((px_up s 90 0 (s 7 0)) 7 1)) 90 2 ((px_up (px_up s 90 0 (s 7 0)) 90 1 ((px_up s 90 0 (s 7 0)) 7 1)) 7 2)) 90 3 ((px_up (px_up (px_up s 90 0 (s 7 0)) 90 1 ((px_up s 90 0 (s 7 0)) 7 1)) 90 2 ((px_up (px_up s 90 0 (s 7 0)) 90 1 ((px_up s 90 0 (s 7 0)) 7 1)) 7 2)) 7 3)) 7 4)) 7 5)) 7 6)) 90 7 ((px_up (px_up (px_up (px_up (px_up (px_up (px_up s 90 0 (s 7 0)) 90 1 ((px_up s 90 0 (s 7 0)) 7 1)) 90 2 ((px_up (px_up s 90 0 (s 7 0)) 90 1 ((px_up s 90 0 (s 7 0)) 7 1)) 7 2)) 90 3 ((px_up (px_up (px_up s 90 0 (s 7 0)) 90 1 ((px_up s 90 0 (s 7 0)) 7 1)) 90 2 ((px_up (px_up s 90 0 (s 7 0)) 90 1 ((px_up s 90 0 (s 7 0)) 7 1)) 7 2)) 7 3)) 90 4 ((px_up (px_up (px_up (px_up s 90 0 (s 7 0)) 90 1 ((px_up s 90 0 (s 7 0)) 7 1)) 90 2 ((px_up (px_up s 90 0 (s 7 0)) 90 1 ((px_up s 90 0 (s 7 0)) 7 1)) 7 2)) 90 3 ((px_up (px_up (px_up s 90 0 (s 7 0)) 90 1 ((px_up s 90 0 (s 7 0)) 7 1)) 90 2 ((px_up (px_up s 90 0 (s 7 0)) 90 1 ((px_up s 90 0 (s 7 0)) 7 1)) 7 2)) 7 3)) 7 4)) 90 5 ((px_up (px_up (px_up (px_up (px_up s 90 0 (s 7 0)) 90 1 ((px_up s 90 0 (s 7 0)) 7 1)) 90 2 ((px_up (px_up s 90 0 (s 7 0)) 90 1 ((px_up s 90 0 (s 7 0)) 7 1)) 7 2)) 90 3 ((px_up (px_up (px_up s 90 0 (s 7 0)) 90 1 ((px_up s 90 0 (s 7 0)) 7 1)) 90 2 ((px_up (px_up s 90 0 (s 7 0)) 90 1 ((px_up s 90 0 (s 7 0)) 7 1)) 7 2)) 7 3)) 90 4 ((px_up (px_up (px_up (px_up s 90 0 (s 7 0)) 90 1 ((px_up s 90 0 (s 7 0)) 7 1)) 90 2 ((px_up (px_up s 90 0 (s 7 0)) 90 1 ((px_up s 90 0 (s 7 0)) 7 1)) 7 2)) 90 3 ((px_up (px_up (px_up s 90 0 (s 7 0)) 90 1 ((px_up s 90 0 (s 7 0)) 7 1)) 90 2 ((px_up (px_up s 90 0 (s 7 0)) 90 1 ((px_up s 90 0 (s 7 0)) 7 1)) 7 2)) 7 3)) 7 4)) 7 5)) 90 6 ((px_up (px_up (px_up (px_up (px_up (px_up s 90 0 (s 7 0)) 90 1 ((px_up s 90 0 (s 7 0)) 7 1)) 90 2 ((px_up (px_up s 90 0 (s 7 0)) 90 1 ((px_up s 90 0 (s 7 0)) 7 1)) 7 2)) 90 3 ((px_up (px_up (px_up s 90 0 (s 7 0)) 90 1 ((px_up s 90 0 (s 7 0)) 7 1)) 90 2 ((px_up (px_up s 90 0 (s 7 0)) 90 1 ((px_up s 90 0 (s 7 0)) 7 1)) 7 2)) 7 3)) 90 4 ((px_up (px_up (px_up (px_up s 90 0 (s 7 0)) 90 1 ((px_up s 90 0 (s 7 0)) 7 1)) 90 2 ((px_up (px_up s 90 0 (s 7 0)) 90 1 ((px_up s 90 0 (s 7 0)) 7 1)) 7 2)) 90 3 ((px_up (px_up (px_up s 90 0 (s 7 0)) 90 1 ((px_up s 90 0 (s 7 0)) 7 1)) 90 2 ((px_up (px_up s 90 0 (s 7 0)) 90 1 ((px_up s 90 0 (s 7 0)) 7 1)) 7 2)) 7 3)) 7 4)) 90 5 ((px_up (px_up (px_up (px_up (px_up s 90 0 (s 7 0)) 90 1 ((px_up s 90 0 (s 7 0)) 7 1)) 90 2 ((px_up (px_up s 90 0 (s 7 0)) 90 1 ((px_up s 90 0 (s 7 0)) 7 1)) 7 2)) 90 3 ((px_up (px_up (px_up s 90 0 (s 7 0)) 90 1 ((px_up s 90 0 (s 7 0)) 7 1)) 90 2 ((px_up (px_up s 90 0 (s 7 0)) 90 1 ((px_up s 90 0 (s 7 0)) 7 1)) 7 2)) 7 3)) 90 4 ((px_up (px_up (px_up (px_up s 90 0 (s 7 0)) 90 1 ((px_up s 90 0 (s 7 0)) 7 1)) 90 2 ((px_up (px_up s 90 0 (s 7 0)) 90 1 ((px_up s 90 0 (s 7 0)) 7 1)) 7 2)) 90 3 ((px_up (px_up (px_up s 90 0 (s 7 0)) 90 1 ((px_up s 90 0 (s 7 0)) 7 1)) 90 2 ((px_up (px_up s 90 0 (s 7 0)) 90 1 ((px_up s 90 0 (s 7 0)) 7 1)) 7 2)) 7 3)) 7 4)) 7 5)) 7 6)) 7 7)) 8 91 0 0 8) 9 92 0 0 8) 10 93 0 0 8) 11 94 0 0 8)) rfl ?_
  cases h
  exact px_D_vret rfl ⟨rfl, rfl⟩

def f_Fate_become_2 (s : px_Z) : Option (px_Z) := if ((px_up (px_up (px_up (px_up (px_up (px_up s 105 0 (s 7 0)) 105 1 ((px_up s 105 0 (s 7 0)) 7 1)) 105 2 ((px_up (px_up s 105 0 (s 7 0)) 105 1 ((px_up s 105 0 (s 7 0)) 7 1)) 7 2)) 105 3 ((px_up (px_up (px_up s 105 0 (s 7 0)) 105 1 ((px_up s 105 0 (s 7 0)) 7 1)) 105 2 ((px_up (px_up s 105 0 (s 7 0)) 105 1 ((px_up s 105 0 (s 7 0)) 7 1)) 7 2)) 7 3)) 105 4 ((px_up (px_up (px_up (px_up s 105 0 (s 7 0)) 105 1 ((px_up s 105 0 (s 7 0)) 7 1)) 105 2 ((px_up (px_up s 105 0 (s 7 0)) 105 1 ((px_up s 105 0 (s 7 0)) 7 1)) 7 2)) 105 3 ((px_up (px_up (px_up s 105 0 (s 7 0)) 105 1 ((px_up s 105 0 (s 7 0)) 7 1)) 105 2 ((px_up (px_up s 105 0 (s 7 0)) 105 1 ((px_up s 105 0 (s 7 0)) 7 1)) 7 2)) 7 3)) 7 4)) 105 5 ((px_up (px_up (px_up (px_up (px_up s 105 0 (s 7 0)) 105 1 ((px_up s 105 0 (s 7 0)) 7 1)) 105 2 ((px_up (px_up s 105 0 (s 7 0)) 105 1 ((px_up s 105 0 (s 7 0)) 7 1)) 7 2)) 105 3 ((px_up (px_up (px_up s 105 0 (s 7 0)) 105 1 ((px_up s 105 0 (s 7 0)) 7 1)) 105 2 ((px_up (px_up s 105 0 (s 7 0)) 105 1 ((px_up s 105 0 (s 7 0)) 7 1)) 7 2)) 7 3)) 105 4 ((px_up (px_up (px_up (px_up s 105 0 (s 7 0)) 105 1 ((px_up s 105 0 (s 7 0)) 7 1)) 105 2 ((px_up (px_up s 105 0 (s 7 0)) 105 1 ((px_up s 105 0 (s 7 0)) 7 1)) 7 2)) 105 3 ((px_up (px_up (px_up s 105 0 (s 7 0)) 105 1 ((px_up s 105 0 (s 7 0)) 7 1)) 105 2 ((px_up (px_up s 105 0 (s 7 0)) 105 1 ((px_up s 105 0 (s 7 0)) 7 1)) 7 2)) 7 3)) 7 4)) 7 5)) 7 6) = 0 ∨ ((px_up (px_up (px_up (px_up (px_up (px_up s 105 0 (s 7 0)) 105 1 ((px_up s 105 0 (s 7 0)) 7 1)) 105 2 ((px_up (px_up s 105 0 (s 7 0)) 105 1 ((px_up s 105 0 (s 7 0)) 7 1)) 7 2)) 105 3 ((px_up (px_up (px_up s 105 0 (s 7 0)) 105 1 ((px_up s 105 0 (s 7 0)) 7 1)) 105 2 ((px_up (px_up s 105 0 (s 7 0)) 105 1 ((px_up s 105 0 (s 7 0)) 7 1)) 7 2)) 7 3)) 105 4 ((px_up (px_up (px_up (px_up s 105 0 (s 7 0)) 105 1 ((px_up s 105 0 (s 7 0)) 7 1)) 105 2 ((px_up (px_up s 105 0 (s 7 0)) 105 1 ((px_up s 105 0 (s 7 0)) 7 1)) 7 2)) 105 3 ((px_up (px_up (px_up s 105 0 (s 7 0)) 105 1 ((px_up s 105 0 (s 7 0)) 7 1)) 105 2 ((px_up (px_up s 105 0 (s 7 0)) 105 1 ((px_up s 105 0 (s 7 0)) 7 1)) 7 2)) 7 3)) 7 4)) 105 5 ((px_up (px_up (px_up (px_up (px_up s 105 0 (s 7 0)) 105 1 ((px_up s 105 0 (s 7 0)) 7 1)) 105 2 ((px_up (px_up s 105 0 (s 7 0)) 105 1 ((px_up s 105 0 (s 7 0)) 7 1)) 7 2)) 105 3 ((px_up (px_up (px_up s 105 0 (s 7 0)) 105 1 ((px_up s 105 0 (s 7 0)) 7 1)) 105 2 ((px_up (px_up s 105 0 (s 7 0)) 105 1 ((px_up s 105 0 (s 7 0)) 7 1)) 7 2)) 7 3)) 105 4 ((px_up (px_up (px_up (px_up s 105 0 (s 7 0)) 105 1 ((px_up s 105 0 (s 7 0)) 7 1)) 105 2 ((px_up (px_up s 105 0 (s 7 0)) 105 1 ((px_up s 105 0 (s 7 0)) 7 1)) 7 2)) 105 3 ((px_up (px_up (px_up s 105 0 (s 7 0)) 105 1 ((px_up s 105 0 (s 7 0)) 7 1)) 105 2 ((px_up (px_up s 105 0 (s 7 0)) 105 1 ((px_up s 105 0 (s 7 0)) 7 1)) 7 2)) 7 3)) 7 4)) 7 5)) 7 6) = 1 then some (px_cp (px_cp (px_cp (px_cp (px_up (px_up (px_up (px_up (px_up (px_up (px_up (px_up s 105 0 (s 7 0)) 105 1 ((px_up s 105 0 (s 7 0)) 7 1)) 105 2 ((px_up (px_up s 105 0 (s 7 0)) 105 1 ((px_up s 105 0 (s 7 0)) 7 1)) 7 2)) 105 3 ((px_up (px_up (px_up s 105 0 (s 7 0)) 105 1 ((px_up s 105 0 (s 7 0)) 7 1)) 105 2 ((px_up (px_up s 105 0 (s 7 0)) 105 1 ((px_up s 105 0 (s 7 0)) 7 1)) 7 2)) 7 3)) 105 4 ((px_up (px_up (px_up (px_up s 105 0 (s 7 0)) 105 1 ((px_up s 105 0 (s 7 0)) 7 1)) 105 2 ((px_up (px_up s 105 0 (s 7 0)) 105 1 ((px_up s 105 0 (s 7 0)) 7 1)) 7 2)) 105 3 ((px_up (px_up (px_up s 105 0 (s 7 0)) 105 1 ((px_up s 105 0 (s 7 0)) 7 1)) 105 2 ((px_up (px_up s 105 0 (s 7 0)) 105 1 ((px_up s 105 0 (s 7 0)) 7 1)) 7 2)) 7 3)) 7 4)) 105 5 ((px_up (px_up (px_up (px_up (px_up s 105 0 (s 7 0)) 105 1 ((px_up s 105 0 (s 7 0)) 7 1)) 105 2 ((px_up (px_up s 105 0 (s 7 0)) 105 1 ((px_up s 105 0 (s 7 0)) 7 1)) 7 2)) 105 3 ((px_up (px_up (px_up s 105 0 (s 7 0)) 105 1 ((px_up s 105 0 (s 7 0)) 7 1)) 105 2 ((px_up (px_up s 105 0 (s 7 0)) 105 1 ((px_up s 105 0 (s 7 0)) 7 1)) 7 2)) 7 3)) 105 4 ((px_up (px_up (px_up (px_up s 105 0 (s 7 0)) 105 1 ((px_up s 105 0 (s 7 0)) 7 1)) 105 2 ((px_up (px_up s 105 0 (s 7 0)) 105 1 ((px_up s 105 0 (s 7 0)) 7 1)) 7 2)) 105 3 ((px_up (px_up (px_up s 105 0 (s 7 0)) 105 1 ((px_up s 105 0 (s 7 0)) 7 1)) 105 2 ((px_up (px_up s 105 0 (s 7 0)) 105 1 ((px_up s 105 0 (s 7 0)) 7 1)) 7 2)) 7 3)) 7 4)) 7 5)) 105 6 ((px_up (px_up (px_up (px_up (px_up (px_up s 105 0 (s 7 0)) 105 1 ((px_up s 105 0 (s 7 0)) 7 1)) 105 2 ((px_up (px_up s 105 0 (s 7 0)) 105 1 ((px_up s 105 0 (s 7 0)) 7 1)) 7 2)) 105 3 ((px_up (px_up (px_up s 105 0 (s 7 0)) 105 1 ((px_up s 105 0 (s 7 0)) 7 1)) 105 2 ((px_up (px_up s 105 0 (s 7 0)) 105 1 ((px_up s 105 0 (s 7 0)) 7 1)) 7 2)) 7 3)) 105 4 ((px_up (px_up (px_up (px_up s 105 0 (s 7 0)) 105 1 ((px_up s 105 0 (s 7 0)) 7 1)) 105 2 ((px_up (px_up s 105 0 (s 7 0)) 105 1 ((px_up s 105 0 (s 7 0)) 7 1)) 7 2)) 105 3 ((px_up (px_up (px_up s 105 0 (s 7 0)) 105 1 ((px_up s 105 0 (s 7 0)) 7 1)) 105 2 ((px_up (px_up s 105 0 (s 7 0)) 105 1 ((px_up s 105 0 (s 7 0)) 7 1)) 7 2)) 7 3)) 7 4)) 105 5 ((px_up (px_up (px_up (px_up (px_up s 105 0 (s 7 0)) 105 1 ((px_up s 105 0 (s 7 0)) 7 1)) 105 2 ((px_up (px_up s 105 0 (s 7 0)) 105 1 ((px_up s 105 0 (s 7 0)) 7 1)) 7 2)) 105 3 ((px_up (px_up (px_up s 105 0 (s 7 0)) 105 1 ((px_up s 105 0 (s 7 0)) 7 1)) 105 2 ((px_up (px_up s 105 0 (s 7 0)) 105 1 ((px_up s 105 0 (s 7 0)) 7 1)) 7 2)) 7 3)) 105 4 ((px_up (px_up (px_up (px_up s 105 0 (s 7 0)) 105 1 ((px_up s 105 0 (s 7 0)) 7 1)) 105 2 ((px_up (px_up s 105 0 (s 7 0)) 105 1 ((px_up s 105 0 (s 7 0)) 7 1)) 7 2)) 105 3 ((px_up (px_up (px_up s 105 0 (s 7 0)) 105 1 ((px_up s 105 0 (s 7 0)) 7 1)) 105 2 ((px_up (px_up s 105 0 (s 7 0)) 105 1 ((px_up s 105 0 (s 7 0)) 7 1)) 7 2)) 7 3)) 7 4)) 7 5)) 7 6)) 105 7 ((px_up (px_up (px_up (px_up (px_up (px_up (px_up s 105 0 (s 7 0)) 105 1 ((px_up s 105 0 (s 7 0)) 7 1)) 105 2 ((px_up (px_up s 105 0 (s 7 0)) 105 1 ((px_up s 105 0 (s 7 0)) 7 1)) 7 2)) 105 3 ((px_up (px_up (px_up s 105 0 (s 7 0)) 105 1 ((px_up s 105 0 (s 7 0)) 7 1)) 105 2 ((px_up (px_up s 105 0 (s 7 0)) 105 1 ((px_up s 105 0 (s 7 0)) 7 1)) 7 2)) 7 3)) 105 4 ((px_up (px_up (px_up (px_up s 105 0 (s 7 0)) 105 1 ((px_up s 105 0 (s 7 0)) 7 1)) 105 2 ((px_up (px_up s 105 0 (s 7 0)) 105 1 ((px_up s 105 0 (s 7 0)) 7 1)) 7 2)) 105 3 ((px_up (px_up (px_up s 105 0 (s 7 0)) 105 1 ((px_up s 105 0 (s 7 0)) 7 1)) 105 2 ((px_up (px_up s 105 0 (s 7 0)) 105 1 ((px_up s 105 0 (s 7 0)) 7 1)) 7 2)) 7 3)) 7 4)) 105 5 ((px_up (px_up (px_up (px_up (px_up s 105 0 (s 7 0)) 105 1 ((px_up s 105 0 (s 7 0)) 7 1)) 105 2 ((px_up (px_up s 105 0 (s 7 0)) 105 1 ((px_up s 105 0 (s 7 0)) 7 1)) 7 2)) 105 3 ((px_up (px_up (px_up s 105 0 (s 7 0)) 105 1 ((px_up s 105 0 (s 7 0)) 7 1)) 105 2 ((px_up (px_up s 105 0 (s 7 0)) 105 1 ((px_up s 105 0 (s 7 0)) 7 1)) 7 2)) 7 3)) 105 4 ((px_up (px_up (px_up (px_up s 105 0 (s 7 0)) 105 1 ((px_up s 105 0 (s 7 0)) 7 1)) 105 2 ((px_up (px_up s 105 0 (s 7 0)) 105 1 ((px_up s 105 0 (s 7 0)) 7 1)) 7 2)) 105 3 ((px_up (px_up (px_up s 105 0 (s 7 0)) 105 1 ((px_up s 105 0 (s 7 0)) 7 1)) 105 2 ((px_up (px_up s 105 0 (s 7 0)) 105 1 ((px_up s 105 0 (s 7 0)) 7 1)) 7 2)) 7 3)) 7 4)) 7 5)) 105 6 ((px_up (px_up (px_up (px_up (px_up (px_up s 105 0 (s 7 0)) 105 1 ((px_up s 105 0 (s 7 0)) 7 1)) 105 2 ((px_up (px_up s 105 0 (s 7 0)) 105 1 ((px_up s 105 0 (s 7 0)) 7 1)) 7 2)) 105 3 ((px_up (px_up (px_up s 105 0 (s 7 0)) 105 1 ((px_up s 105 0 (s 7 0)) 7 1)) 105 2 ((px_up (px_up s 105 0 (s 7 0)) 105 1 ((px_up s 105 0 (s 7 0)) 7 1)) 7 2)) 7 3)) 105 4 ((px_up (px_up (px_up (px_up s 105 0 (s 7 0)) 105 1 ((px_up s 105 0 (s 7 0)) 7 1)) 105 2 ((px_up (px_up s 105 0 (s 7 0)) 105 1 ((px_up s 105 0 (s 7 0)) 7 1)) 7 2)) 105 3 ((px_up (px_up (px_up s 105 0 (s 7 0)) 105 1 ((px_up s 105 0 (s 7 0)) 7 1)) 105 2 ((px_up (px_up s 105 0 (s 7 0)) 105 1 ((px_up s 105 0 (s 7 0)) 7 1)) 7 2)) 7 3)) 7 4)) 105 5 ((px_up (px_up (px_up (px_up (px_up s 105 0 (s 7 0)) 105 1 ((px_up s 105 0 (s 7 0)) 7 1)) 105 2 ((px_up (px_up s 105 0 (s 7 0)) 105 1 ((px_up s 105 0 (s 7 0)) 7 1)) 7 2)) 105 3 ((px_up (px_up (px_up s 105 0 (s 7 0)) 105 1 ((px_up s 105 0 (s 7 0)) 7 1)) 105 2 ((px_up (px_up s 105 0 (s 7 0)) 105 1 ((px_up s 105 0 (s 7 0)) 7 1)) 7 2)) 7 3)) 105 4 ((px_up (px_up (px_up (px_up s 105 0 (s 7 0)) 105 1 ((px_up s 105 0 (s 7 0)) 7 1)) 105 2 ((px_up (px_up s 105 0 (s 7 0)) 105 1 ((px_up s 105 0 (s 7 0)) 7 1)) 7 2)) 105 3 ((px_up (px_up (px_up s 105 0 (s 7 0)) 105 1 ((px_up s 105 0 (s 7 0)) 7 1)) 105 2 ((px_up (px_up s 105 0 (s 7 0)) 105 1 ((px_up s 105 0 (s 7 0)) 7 1)) 7 2)) 7 3)) 7 4)) 7 5)) 7 6)) 7 7)) 8 106 0 0 8) 9 107 0 0 8) 10 108 0 0 8) 11 109 0 0 8) else none
set_option maxHeartbeats 4000000 in
set_option maxRecDepth 100000 in
theorem c_Fate_become_2 {sc : List Int} {d : Nat} {s : px_Z} {out : px_Z} (h : f_Fate_become_2 s  = some out) : px_D sc (d + 0) 1 0 [(0, .inr (.inr 105)), (1, .inr (.inr 7))] [] (px_G1, s) (px_Qv out) := by
  unfold f_Fate_become_2 at h
  refine px_D_st 27 (ip1 := 27) (ls1 := [(0, .inr (.inr 105)), (1, .inr (.inr 7))]) (st1 := [.inl ((px_up (px_up (px_up (px_up (px_up (px_up s 105 0 (s 7 0)) 105 1 ((px_up s 105 0 (s 7 0)) 7 1)) 105 2 ((px_up (px_up s 105 0 (s 7 0)) 105 1 ((px_up s 105 0 (s 7 0)) 7 1)) 7 2)) 105 3 ((px_up (px_up (px_up s 105 0 (s 7 0)) 105 1 ((px_up s 105 0 (s 7 0)) 7 1)) 105 2 ((px_up (px_up s 105 0 (s 7 0)) 105 1 ((px_up s 105 0 (s 7 0)) 7 1)) 7 2)) 7 3)) 105 4 ((px_up (px_up (px_up (px_up s 105 0 (s 7 0)) 105 1 ((px_up s 105 0 (s 7 0)) 7 1)) 105 2 ((px_up (px_up s 105 0 (s 7 0)) 105 1 ((px_up s 105 0 (s 7 0)) 7 1)) 7 2)) 105 3 ((px_up (px_up (px_up s 105 0 (s 7 0)) 105 1 ((px_up s 105 0 (s 7 0)) 7 1)) 105 2 ((px_up (px_up s 105 0 (s 7 0)) 105 1 ((px_up s 105 0 (s 7 0)) 7 1)) 7 2)) 7 3)) 7 4)) 105 5 ((px_up (px_up (px_up (px_up (px_up s 105 0 (s 7 0)) 105 1 ((px_up s 105 0 (s 7 0)) 7 1)) 105 2 ((px_up (px_up s 105 0 (s 7 0)) 105 1 ((px_up s 105 0 (s 7 0)) 7 1)) 7 2)) 105 3 ((px_up (px_up (px_up s 105 0 (s 7 0)) 105 1 ((px_up s 105 0 (s 7 0)) 7 1)) 105 2 ((px_up (px_up s 105 0 (s 7 0)) 105 1 ((px_up s 105 0 (s 7 0)) 7 1)) 7 2)) 7 3)) 105 4 ((px_up (px_up (px_up (px_up s 105 0 (s 7 0)) 105 1 ((px_up s 105 0 (s 7 0)) 7 1)) 105 2 ((px_up (px_up s 105 0 (s 7 0)) 105 1 ((px_up s 105 0 (s 7 0)) 7 1)) 7 2)) 105 3 ((px_up (px_up (px_up s 105 0 (s 7 0)) 105 1 ((px_up s 105 0 (s 7 0)) 7 1)) 105 2 ((px_up (px_up s 105 0 (s 7 0)) 105 1 ((px_up s 105 0 (s 7 0)) 7 1)) 7 2)) 7 3)) 7 4)) 7 5)) 7 6), .inr (.inr 105)]) (h1 := (px_G1, px_up (px_up (px_up (px_up (px_up (px_up s 105 0 (s 7 0)) 105 1 ((px_up s 105 0 (s 7 0)) 7 1)) 105 2 ((px_up (px_up s 105 0 (s 7 0)) 105 1 ((px_up s 105 0 (s 7 0)) 7 1)) 7 2)) 105 3 ((px_up (px_up (px_up s 105 0 (s 7 0)) 105 1 ((px_up s 105 0 (s 7 0)) 7 1)) 105 2 ((px_up (px_up s 105 0 (s 7 0)) 105 1 ((px_up s 105 0 (s 7 0)) 7 1)) 7 2)) 7 3)) 105 4 ((px_up (px_up (px_up (px_up s 105 0 (s 7 0)) 105 1 ((px_up s 105 0 (s 7 0)) 7 1)) 105 2 ((px_up (px_up s 105 0 (s 7 0)) 105 1 ((px_up s 105 0 (s 7 0)) 7 1)) 7 2)) 105 3 ((px_up (px_up (px_up s 105 0 (s 7 0)) 105 1 ((px_up s 105 0 (s 7 0)) 7 1)) 105 2 ((px_up (px_up s 105 0 (s 7 0)) 105 1 ((px_up s 105 0 (s 7 0)) 7 1)) 7 2)) 7 3)) 7 4)) 105 5 ((px_up (px_up (px_up (px_up (px_up s 105 0 (s 7 0)) 105 1 ((px_up s 105 0 (s 7 0)) 7 1)) 105 2 ((px_up (px_up s 105 0 (s 7 0)) 105 1 ((px_up s 105 0 (s 7 0)) 7 1)) 7 2)) 105 3 ((px_up (px_up (px_up s 105 0 (s 7 0)) 105 1 ((px_up s 105 0 (s 7 0)) 7 1)) 105 2 ((px_up (px_up s 105 0 (s 7 0)) 105 1 ((px_up s 105 0 (s 7 0)) 7 1)) 7 2)) 7 3)) 105 4 ((px_up (px_up (px_up (px_up s 105 0 (s 7 0)) 105 1 ((px_up s 105 0 (s 7 0)) 7 1)) 105 2 ((px_up (px_up s 105 0 (s 7 0)) 105 1 ((px_up s 105 0 (s 7 0)) 7 1)) 7 2)) 105 3 ((px_up (px_up (px_up s 105 0 (s 7 0)) 105 1 ((px_up s 105 0 (s 7 0)) 7 1)) 105 2 ((px_up (px_up s 105 0 (s 7 0)) 105 1 ((px_up s 105 0 (s 7 0)) 7 1)) 7 2)) 7 3)) 7 4)) 7 5))) rfl ?_
  by_cases hc1 : ((px_up (px_up (px_up (px_up (px_up (px_up s 105 0 (s 7 0)) 105 1 ((px_up s 105 0 (s 7 0)) 7 1)) 105 2 ((px_up (px_up s 105 0 (s 7 0)) 105 1 ((px_up s 105 0 (s 7 0)) 7 1)) 7 2)) 105 3 ((px_up (px_up (px_up s 105 0 (s 7 0)) 105 1 ((px_up s 105 0 (s 7 0)) 7 1)) 105 2 ((px_up (px_up s 105 0 (s 7 0)) 105 1 ((px_up s 105 0 (s 7 0)) 7 1)) 7 2)) 7 3)) 105 4 ((px_up (px_up (px_up (px_up s 105 0 (s 7 0)) 105 1 ((px_up s 105 0 (s 7 0)) 7 1)) 105 2 ((px_up (px_up s 105 0 (s 7 0)) 105 1 ((px_up s 105 0 (s 7 0)) 7 1)) 7 2)) 105 3 ((px_up (px_up (px_up s 105 0 (s 7 0)) 105 1 ((px_up s 105 0 (s 7 0)) 7 1)) 105 2 ((px_up (px_up s 105 0 (s 7 0)) 105 1 ((px_up s 105 0 (s 7 0)) 7 1)) 7 2)) 7 3)) 7 4)) 105 5 ((px_up (px_up (px_up (px_up (px_up s 105 0 (s 7 0)) 105 1 ((px_up s 105 0 (s 7 0)) 7 1)) 105 2 ((px_up (px_up s 105 0 (s 7 0)) 105 1 ((px_up s 105 0 (s 7 0)) 7 1)) 7 2)) 105 3 ((px_up (px_up (px_up s 105 0 (s 7 0)) 105 1 ((px_up s 105 0 (s 7 0)) 7 1)) 105 2 ((px_up (px_up s 105 0 (s 7 0)) 105 1 ((px_up s 105 0 (s 7 0)) 7 1)) 7 2)) 7 3)) 105 4 ((px_up (px_up (px_up (px_up s 105 0 (s 7 0)) 105 1 ((px_up s 105 0 (s 7 0)) 7 1)) 105 2 ((px_up (px_up s 105 0 (s 7 0)) 105 1 ((px_up s 105 0 (s 7 0)) 7 1)) 7 2)) 105 3 ((px_up (px_up (px_up s 105 0 (s 7 0)) 105 1 ((px_up s 105 0 (s 7 0)) 7 1)) 105 2 ((px_up (px_up s 105 0 (s 7 0)) 105 1 ((px_up s 105 0 (s 7 0)) 7 1)) 7 2)) 7 3)) 7 4)) 7 5)) 7 6) = 0 ∨ ((px_up (px_up (px_up (px_up (px_up (px_up s 105 0 (s 7 0)) 105 1 ((px_up s 105 0 (s 7 0)) 7 1)) 105 2 ((px_up (px_up s 105 0 (s 7 0)) 105 1 ((px_up s 105 0 (s 7 0)) 7 1)) 7 2)) 105 3 ((px_up (px_up (px_up s 105 0 (s 7 0)) 105 1 ((px_up s 105 0 (s 7 0)) 7 1)) 105 2 ((px_up (px_up s 105 0 (s 7 0)) 105 1 ((px_up s 105 0 (s 7 0)) 7 1)) 7 2)) 7 3)) 105 4 ((px_up (px_up (px_up (px_up s 105 0 (s 7 0)) 105 1 ((px_up s 105 0 (s 7 0)) 7 1)) 105 2 ((px_up (px_up s 105 0 (s 7 0)) 105 1 ((px_up s 105 0 (s 7 0)) 7 1)) 7 2)) 105 3 ((px_up (px_up (px_up s 105 0 (s 7 0)) 105 1 ((px_up s 105 0 (s 7 0)) 7 1)) 105 2 ((px_up (px_up s 105 0 (s 7 0)) 105 1 ((px_up s 105 0 (s 7 0)) 7 1)) 7 2)) 7 3)) 7 4)) 105 5 ((px_up (px_up (px_up (px_up (px_up s 105 0 (s 7 0)) 105 1 ((px_up s 105 0 (s 7 0)) 7 1)) 105 2 ((px_up (px_up s 105 0 (s 7 0)) 105 1 ((px_up s 105 0 (s 7 0)) 7 1)) 7 2)) 105 3 ((px_up (px_up (px_up s 105 0 (s 7 0)) 105 1 ((px_up s 105 0 (s 7 0)) 7 1)) 105 2 ((px_up (px_up s 105 0 (s 7 0)) 105 1 ((px_up s 105 0 (s 7 0)) 7 1)) 7 2)) 7 3)) 105 4 ((px_up (px_up (px_up (px_up s 105 0 (s 7 0)) 105 1 ((px_up s 105 0 (s 7 0)) 7 1)) 105 2 ((px_up (px_up s 105 0 (s 7 0)) 105 1 ((px_up s 105 0 (s 7 0)) 7 1)) 7 2)) 105 3 ((px_up (px_up (px_up s 105 0 (s 7 0)) 105 1 ((px_up s 105 0 (s 7 0)) 7 1)) 105 2 ((px_up (px_up s 105 0 (s 7 0)) 105 1 ((px_up s 105 0 (s 7 0)) 7 1)) 7 2)) 7 3)) 7 4)) 7 5)) 7 6) = 1
  case neg => rw [if_neg hc1] at h; cases h
  rw [if_pos hc1] at h
  refine px_D_putz (k := 100) rfl rfl rfl rfl hc1 ?_
  refine px_D_st 36 (ip1 := 64) (ls1 := [(0, .inr (.inr 105)), (1, .inr (.inr 7))]) (st1 := []) (h1 := (px_G1, px_cp (px_cp (px_cp (px_cp (px_up (px_up (px_up (px_up (px_up (px_up (px_up (px_up s 105 0 (s 7 0)) 105 1 ((px_up s 105 0 (s 7 0)) 7 1)) 105 2 ((px_up (px_up s 105 0 (s 7 0)) 105 1 ((px_up s 105 0 (s 7 0)) 7 1)) 7 2)) 105 3 ((px_up (px_up (px_up s 105 0 (s 7 0)) 105 1 ((px_up s 105 0 (s 7 0)) 7 1)) 105 2 ((px_up (px_up s 105 0 (s 7 0)) 105 1 ((px_up s 105 0 (s 7 0)) 7 1)) 7 2)) 7 3)) 105 4 ((px_up (px_up (px_up (px_up s 105 0 (s 7 0)) 105 1 ((px_up s 105 0 (s 7 0)) 7 1)) 105 2 ((px_up (px_up s 105 0 (s 7 0)) 105 1 ((px_up s 105 0 (s 7 0)) 7 1)) 7 2)) 105 3 ((px_up (px_up (px_up s 105 0 (s 7 0)) 105 1 ((px_up s 105 0 (s 7 0)) 7 1)) 105 2 ((px_up (px_up s 105 0 (s 7 0)) 105 1 ((px_up s 105 0 (s 7 0)) 7 1)) 7 2)) 7 3)) 7 4)) 105 5 ((px_up (px_up (px_up (px_up (px_up s 105 0 (s 7 0)) 105 1 ((px_up s 105 0 (s 7 0)) 7 1)) 105 2 ((px_up (px_up s 105 0 (s 7 0)) 105 1 ((px_up s 105 0 (s 7 0)) 7 1)) 7 2)) 105 3 ((px_up (px_up (px_up s 105 0 (s 7 0)) 105 1 ((px_up s 105 0 (s 7 0)) 7 1)) 105 2 ((px_up (px_up s 105 0 (s 7 0)) 105 1 ((px_up s 105 0 (s 7 0)) 7 1)) 7 2)) 7 3)) 105 4 ((px_up (px_up (px_up (px_up s 105 0 (s 7 0)) 105 1 ((px_up s 105 0 (s 7 0)) 7 1)) 105 2 ((px_up (px_up s 105 0 (s 7 0)) 105 1 ((px_up s 105 0 (s 7 0)) 7 1)) 7 2)) 105 3 ((px_up (px_up (px_up s 105 0 (s 7 0)) 105 1 ((px_up s 105 0 (s 7 0)) 7 1)) 105 2 ((px_up (px_up s 105 0 (s 7 0)) 105 1 ((px_up s 105 0 (s 7 0)) 7 1)) 7 2)) 7 3)) 7 4)) 7 5)) 105 6 ((px_up (px_up (px_up (px_up (px_up (px_up s 105 0 (s 7 0)) 105 1 ((px_up s 105 0 (s 7 0)) 7 1)) 105 2 ((px_up (px_up s 105 0 (s 7 0)) 105 1 ((px_up s 105 0 (s 7 0)) 7 1)) 7 2)) 105 3 ((px_up (px_up (px_up s 105 0 (s 7 0)) 105 1 ((px_up s 105 0 (s 7 0)) 7 1)) 105 2 ((px_up (px_up s 105 0 (s 7 0)) 105 1 ((px_up s 105 0 (s 7 0)) 7 1)) 7 2)) 7 3)) 105 4 ((px_up (px_up (px_up (px_up s 105 0 (s 7 0)) 105 1 ((px_up s 105 0 (s 7 0)) 7 1)) 105 2 ((px_up (px_up s 105 0 (s 7 0)) 105 1 ((px_up s 105 0 (s 7 0)) 7 1)) 7 2)) 105 3 ((px_up (px_up (px_up s 105 0 (s 7 0)) 105 1 ((px_up s 105 0 (s 7 0)) 7 1)) 105 2 ((px_up (px_up s 105 0 (s 7 0)) 105 1 ((px_up s 105 0 (s 7 0)) 7 1)) 7 2)) 7 3)) 7 4)) 105 5 ((px_up (px_up (px_up (px_up (px_up s 105 0 (s 7 0)) 105 1 ((px_up s 105 0 (s 7 0)) 7 1)) 105 2 ((px_up (px_up s 105 0 (s 7 0)) 105 1 ((px_up s 105 0 (s 7 0)) 7 1)) 7 2)) 105 3 ((px_up (px_up (px_up s 105 0 (s 7 0)) 105 1 ((px_up s 105 0 (s 7 0)) 7 1)) 105 2 ((px_up (px_up s 105 0 (s 7 0)) 105 1 ((px_up s 105 0 (s 7 0)) 7 1)) 7 2)) 7 3)) 105 4 ((px_up (px_up (px_up (px_up s 105 0 (s 7 0)) 105 1 ((px_up s 105 0 (s 7 0)) 7 1)) 105 2 ((px_up (px_up s 105 0 (s 7 0)) 105 1 ((px_up s 105 0 (s 7 0)) 7 1)) 7 2)) 105 3 ((px_up (px_up (px_up s 105 0 (s 7 0)) 105 1 ((px_up s 105 0 (s 7 0)) 7 1)) 105 2 ((px_up (px_up s 105 0 (s 7 0)) 105 1 ((px_up s 105 0 (s 7 0)) 7 1)) 7 2)) 7 3)) 7 4)) 7 5)) 7 6)) 105 7 ((px_up (px_up (px_up (px_up (px_up (px_up (px_up s 105 0 (s 7 0)) 105 1 ((px_up s 105 0 (s 7 0)) 7 1)) 105 2 ((px_up (px_up s 105 0 (s 7 0)) 105 1 ((px_up s 105 0 (s 7 0)) 7 1)) 7 2)) 105 3 ((px_up (px_up (px_up s 105 0 (s 7 0)) 105 1 ((px_up s 105 0 (s 7 0)) 7 1)) 105 2 ((px_up (px_up s 105 0 (s 7 0)) 105 1 ((px_up s 105 0 (s 7 0)) 7 1)) 7 2)) 7 3)) 105 4 ((px_up (px_up (px_up (px_up s 105 0 (s 7 0)) 105 1 ((px_up s 105 0 (s 7 0)) 7 1)) 105 2 ((px_up (px_up s 105 0 (s 7 0)) 105 1 ((px_up s 105 0 (s 7 0)) 7 1)) 7 2)) 105 3 ((px_up (px_up (px_up s 105 0 (s 7 0)) 105 1 ((px_up s 105 0 (s 7 0)) 7 1)) 105 2 ((px_up (px_up s 105 0 (s 7 0)) 105 1 ((px_up s 105 0 (s 7 0)) 7 1)) 7 2)) 7 3)) 7 4)) 105 5 ((px_up (px_up (px_up (px_up (px_up s 105 0 (s 7 0)) 105 1 ((px_up s 105 0 (s 7 0)) 7 1)) 105 2 ((px_up (px_up s 105 0 (s 7 0)) 105 1 ((px_up s 105 0 (s 7 0)) 7 1)) 7 2)) 105 3 ((px_up (px_up (px_up s 105 0 (s 7 0)) 105 1 ((px_up s 105 0 (s 7 0)) 7 1)) 105 2 ((px_up (px_up s 105 0 (s 7 0)) 105 1 ((px_up s 105 0 (s 7 0)) 7 1)) 7 2)) 7 3)) 105 4 ((px_up (px_up (px_up (px_up s 105 0 (s 7 0)) 105 1 ((px_up s 105 0 (s 7 0)) 7 1)) 105 2 ((px_up (px_up s 105 0 (s 7 0)) 105 1 ((px_up s 105 0 (s 7 0)) 7 1)) 7 2)) 105 3 ((px_up (px_up (px_up s 105 0 (s 7 0)) 105 1 ((px_up s 105 0 (s 7 0)) 7 1)) 105 2 ((px_up (px_up s 105 0 (s 7 0)) 105 1 ((px_up s 105 0 (s 7 0)) 7 1)) 7 2)) 7 3)) 7 4)) 7 5)) 105 6 ((px_up (px_up (px_up (px_up (px_up (px_up s 105 0 (s 7 0)) 105 1 ((px_up s 105 0 (s 7 0)) 7 1)) 105 2 ((px_up (px_up s 105 0 (s 7 0)) 105 1 ((px_up s 105 0 (s 7 0)) 7 1)) 7 2)) 105 3 ((px_up (px_up (px_up s 105 0 (s 7 0)) 105 1 ((px_up s 105 0 (s 7 0)) 7 1)) 105 2 ((px_up (px_up s 105 0 (s 7 0)) 105 1 ((px_up s 105 0 (s 7 0)) 7 1)) 7 2)) 7 3)) 105 4 ((px_up (px_up (px_up (px_up s 105 0 (s 7 0)) 105 1 ((px_up s 105 0 (s 7 0)) 7 1)) 105 2 ((px_up (px_up s 105 0 (s 7 0)) 105 1 ((px_up s 105 0 (s 7 0)) 7 1)) 7 2)) 105 3 ((px_up (px_up (px_up s 105 0 (s 7 0)) 105 1 ((px_up s 105 0 (s 7 0)) 7 1)) 105 2 ((px_up (px_up s 105 0 (s 7 0)) 105 1 ((px_up s 105 0 (s 7 0)) 7 1)) 7 2)) 7 3)) 7 4)) 105 5 ((px_up (px_up (px_up (px_up (px_up s 105 0 (s 7 0)) 105 1 ((px_up s 105 0 (s 7 0)) 7 1)) 105 2 ((px_up (px_up s 105 0 (s 7 0)) 105 1 ((px_up s 105 0 (s 7 0)) 7 1)) 7 2)) 105 3 ((px_up (px_up (px_up s 105 0 (s 7 0)) 105 1 ((px_up s 105 0 (s 7 0)) 7 1)) 105 2 ((px_up (px_up s 105 0 (s 7 0)) 105 1 ((px_up s 105 0 (s 7 0)) 7 1)) 7 2)) 7 3)) 105 4 ((px_up (px_up (px_up (px_up s 105 0 (s 7 0)) 105 1 ((px_up s 105 0 (s 7 0)) 7 1)) 105 2 ((px_up (px_up s 105 0 (s 7 0)) 105 1 ((px_up s 105 0 (s 7 0)) 7 1)) 7 2)) 105 3 ((px_up (px_up (px_up s 105 0 (s 7 0)) 105 1 ((px_up s 105 0 (s 7 0)) 7 1)) 105 2 ((px_up (px_up s 105 0 (s 7 0)) 105 1 ((px_up s 105 0 (s 7 0)) 7 1)) 7 2)) 7 3)) 7 4)) 7 5)) 7 6)) 7 7)) 8 106 0 0 8) 9 107 0 0 8) 10 108 0 0 8) 11 109 0 0 8)) rfl ?_
  cases h
  exact px_D_vret rfl ⟨rfl, rfl⟩

def f_Math_min (s : px_Z) (x0 : Int) (x1 : Int) : Int := if (x1) < (x0) then x1 else x0
set_option maxHeartbeats 4000000 in
set_option maxRecDepth 100000 in
theorem c_Math_min {sc : List Int} {d : Nat} {s : px_Z} {x0 : Int} {x1 : Int} {out : Int} (h : f_Math_min s x0 x1 = out) : px_D sc (d + 0) 283 0 [(0, .inl (x0)), (1, .inl (x1))] [] (px_G1, s) (px_Qp s out) := by
  unfold f_Math_min at h
  refine px_D_st 2 (ip1 := 2) (ls1 := [(0, .inl (x0)), (1, .inl (x1))]) (st1 := [.inl (x1), .inl (x0)]) (h1 := (px_G1, s)) rfl ?_
  refine px_D_icmp rfl (fun hc => ?_) (fun hc => ?_)
  · have hc1 : (x1) < (x0) := of_decide_eq_true hc
    rw [if_pos hc1] at h
    refine px_D_st 1 (ip1 := 6) (ls1 := [(0, .inl (x0)), (1, .inl (x1))]) (st1 := [.inl (x1)]) (h1 := (px_G1, s)) rfl ?_
    subst h
    exact px_D_iret rfl rfl ⟨rfl, rfl⟩
  · have hc1 : ¬ ((x1) < (x0)) := of_decide_eq_false hc
    rw [if_neg hc1] at h
    refine px_D_st 2 (ip1 := 6) (ls1 := [(0, .inl (x0)), (1, .inl (x1))]) (st1 := [.inl (x0)]) (h1 := (px_G1, s)) rfl ?_
    subst h
    exact px_D_iret rfl rfl ⟨rfl, rfl⟩

def f_Fate_become_3 (s : px_Z) : Option (px_Z) := if ((px_up (px_up (px_up (px_up (px_up (px_up s 110 0 (s 7 0)) 110 1 ((px_up s 110 0 (s 7 0)) 7 1)) 110 2 ((px_up (px_up s 110 0 (s 7 0)) 110 1 ((px_up s 110 0 (s 7 0)) 7 1)) 7 2)) 110 3 ((px_up (px_up (px_up s 110 0 (s 7 0)) 110 1 ((px_up s 110 0 (s 7 0)) 7 1)) 110 2 ((px_up (px_up s 110 0 (s 7 0)) 110 1 ((px_up s 110 0 (s 7 0)) 7 1)) 7 2)) 7 3)) 110 4 ((px_up (px_up (px_up (px_up s 110 0 (s 7 0)) 110 1 ((px_up s 110 0 (s 7 0)) 7 1)) 110 2 ((px_up (px_up s 110 0 (s 7 0)) 110 1 ((px_up s 110 0 (s 7 0)) 7 1)) 7 2)) 110 3 ((px_up (px_up (px_up s 110 0 (s 7 0)) 110 1 ((px_up s 110 0 (s 7 0)) 7 1)) 110 2 ((px_up (px_up s 110 0 (s 7 0)) 110 1 ((px_up s 110 0 (s 7 0)) 7 1)) 7 2)) 7 3)) 7 4)) 110 5 ((px_up (px_up (px_up (px_up (px_up s 110 0 (s 7 0)) 110 1 ((px_up s 110 0 (s 7 0)) 7 1)) 110 2 ((px_up (px_up s 110 0 (s 7 0)) 110 1 ((px_up s 110 0 (s 7 0)) 7 1)) 7 2)) 110 3 ((px_up (px_up (px_up s 110 0 (s 7 0)) 110 1 ((px_up s 110 0 (s 7 0)) 7 1)) 110 2 ((px_up (px_up s 110 0 (s 7 0)) 110 1 ((px_up s 110 0 (s 7 0)) 7 1)) 7 2)) 7 3)) 110 4 ((px_up (px_up (px_up (px_up s 110 0 (s 7 0)) 110 1 ((px_up s 110 0 (s 7 0)) 7 1)) 110 2 ((px_up (px_up s 110 0 (s 7 0)) 110 1 ((px_up s 110 0 (s 7 0)) 7 1)) 7 2)) 110 3 ((px_up (px_up (px_up s 110 0 (s 7 0)) 110 1 ((px_up s 110 0 (s 7 0)) 7 1)) 110 2 ((px_up (px_up s 110 0 (s 7 0)) 110 1 ((px_up s 110 0 (s 7 0)) 7 1)) 7 2)) 7 3)) 7 4)) 7 5)) 7 6) = 0 ∨ ((px_up (px_up (px_up (px_up (px_up (px_up s 110 0 (s 7 0)) 110 1 ((px_up s 110 0 (s 7 0)) 7 1)) 110 2 ((px_up (px_up s 110 0 (s 7 0)) 110 1 ((px_up s 110 0 (s 7 0)) 7 1)) 7 2)) 110 3 ((px_up (px_up (px_up s 110 0 (s 7 0)) 110 1 ((px_up s 110 0 (s 7 0)) 7 1)) 110 2 ((px_up (px_up s 110 0 (s 7 0)) 110 1 ((px_up s 110 0 (s 7 0)) 7 1)) 7 2)) 7 3)) 110 4 ((px_up (px_up (px_up (px_up s 110 0 (s 7 0)) 110 1 ((px_up s 110 0 (s 7 0)) 7 1)) 110 2 ((px_up (px_up s 110 0 (s 7 0)) 110 1 ((px_up s 110 0 (s 7 0)) 7 1)) 7 2)) 110 3 ((px_up (px_up (px_up s 110 0 (s 7 0)) 110 1 ((px_up s 110 0 (s 7 0)) 7 1)) 110 2 ((px_up (px_up s 110 0 (s 7 0)) 110 1 ((px_up s 110 0 (s 7 0)) 7 1)) 7 2)) 7 3)) 7 4)) 110 5 ((px_up (px_up (px_up (px_up (px_up s 110 0 (s 7 0)) 110 1 ((px_up s 110 0 (s 7 0)) 7 1)) 110 2 ((px_up (px_up s 110 0 (s 7 0)) 110 1 ((px_up s 110 0 (s 7 0)) 7 1)) 7 2)) 110 3 ((px_up (px_up (px_up s 110 0 (s 7 0)) 110 1 ((px_up s 110 0 (s 7 0)) 7 1)) 110 2 ((px_up (px_up s 110 0 (s 7 0)) 110 1 ((px_up s 110 0 (s 7 0)) 7 1)) 7 2)) 7 3)) 110 4 ((px_up (px_up (px_up (px_up s 110 0 (s 7 0)) 110 1 ((px_up s 110 0 (s 7 0)) 7 1)) 110 2 ((px_up (px_up s 110 0 (s 7 0)) 110 1 ((px_up s 110 0 (s 7 0)) 7 1)) 7 2)) 110 3 ((px_up (px_up (px_up s 110 0 (s 7 0)) 110 1 ((px_up s 110 0 (s 7 0)) 7 1)) 110 2 ((px_up (px_up s 110 0 (s 7 0)) 110 1 ((px_up s 110 0 (s 7 0)) 7 1)) 7 2)) 7 3)) 7 4)) 7 5)) 7 6) = 1 then some (px_cp (px_cp (px_cp (px_cp (px_up (px_up (px_up (px_up (px_up (px_up (px_up (px_up s 110 0 (s 7 0)) 110 1 ((px_up s 110 0 (s 7 0)) 7 1)) 110 2 ((px_up (px_up s 110 0 (s 7 0)) 110 1 ((px_up s 110 0 (s 7 0)) 7 1)) 7 2)) 110 3 ((px_up (px_up (px_up s 110 0 (s 7 0)) 110 1 ((px_up s 110 0 (s 7 0)) 7 1)) 110 2 ((px_up (px_up s 110 0 (s 7 0)) 110 1 ((px_up s 110 0 (s 7 0)) 7 1)) 7 2)) 7 3)) 110 4 ((px_up (px_up (px_up (px_up s 110 0 (s 7 0)) 110 1 ((px_up s 110 0 (s 7 0)) 7 1)) 110 2 ((px_up (px_up s 110 0 (s 7 0)) 110 1 ((px_up s 110 0 (s 7 0)) 7 1)) 7 2)) 110 3 ((px_up (px_up (px_up s 110 0 (s 7 0)) 110 1 ((px_up s 110 0 (s 7 0)) 7 1)) 110 2 ((px_up (px_up s 110 0 (s 7 0)) 110 1 ((px_up s 110 0 (s 7 0)) 7 1)) 7 2)) 7 3)) 7 4)) 110 5 ((px_up (px_up (px_up (px_up (px_up s 110 0 (s 7 0)) 110 1 ((px_up s 110 0 (s 7 0)) 7 1)) 110 2 ((px_up (px_up s 110 0 (s 7 0)) 110 1 ((px_up s 110 0 (s 7 0)) 7 1)) 7 2)) 110 3 ((px_up (px_up (px_up s 110 0 (s 7 0)) 110 1 ((px_up s 110 0 (s 7 0)) 7 1)) 110 2 ((px_up (px_up s 110 0 (s 7 0)) 110 1 ((px_up s 110 0 (s 7 0)) 7 1)) 7 2)) 7 3)) 110 4 ((px_up (px_up (px_up (px_up s 110 0 (s 7 0)) 110 1 ((px_up s 110 0 (s 7 0)) 7 1)) 110 2 ((px_up (px_up s 110 0 (s 7 0)) 110 1 ((px_up s 110 0 (s 7 0)) 7 1)) 7 2)) 110 3 ((px_up (px_up (px_up s 110 0 (s 7 0)) 110 1 ((px_up s 110 0 (s 7 0)) 7 1)) 110 2 ((px_up (px_up s 110 0 (s 7 0)) 110 1 ((px_up s 110 0 (s 7 0)) 7 1)) 7 2)) 7 3)) 7 4)) 7 5)) 110 6 ((px_up (px_up (px_up (px_up (px_up (px_up s 110 0 (s 7 0)) 110 1 ((px_up s 110 0 (s 7 0)) 7 1)) 110 2 ((px_up (px_up s 110 0 (s 7 0)) 110 1 ((px_up s 110 0 (s 7 0)) 7 1)) 7 2)) 110 3 ((px_up (px_up (px_up s 110 0 (s 7 0)) 110 1 ((px_up s 110 0 (s 7 0)) 7 1)) 110 2 ((px_up (px_up s 110 0 (s 7 0)) 110 1 ((px_up s 110 0 (s 7 0)) 7 1)) 7 2)) 7 3)) 110 4 ((px_up (px_up (px_up (px_up s 110 0 (s 7 0)) 110 1 ((px_up s 110 0 (s 7 0)) 7 1)) 110 2 ((px_up (px_up s 110 0 (s 7 0)) 110 1 ((px_up s 110 0 (s 7 0)) 7 1)) 7 2)) 110 3 ((px_up (px_up (px_up s 110 0 (s 7 0)) 110 1 ((px_up s 110 0 (s 7 0)) 7 1)) 110 2 ((px_up (px_up s 110 0 (s 7 0)) 110 1 ((px_up s 110 0 (s 7 0)) 7 1)) 7 2)) 7 3)) 7 4)) 110 5 ((px_up (px_up (px_up (px_up (px_up s 110 0 (s 7 0)) 110 1 ((px_up s 110 0 (s 7 0)) 7 1)) 110 2 ((px_up (px_up s 110 0 (s 7 0)) 110 1 ((px_up s 110 0 (s 7 0)) 7 1)) 7 2)) 110 3 ((px_up (px_up (px_up s 110 0 (s 7 0)) 110 1 ((px_up s 110 0 (s 7 0)) 7 1)) 110 2 ((px_up (px_up s 110 0 (s 7 0)) 110 1 ((px_up s 110 0 (s 7 0)) 7 1)) 7 2)) 7 3)) 110 4 ((px_up (px_up (px_up (px_up s 110 0 (s 7 0)) 110 1 ((px_up s 110 0 (s 7 0)) 7 1)) 110 2 ((px_up (px_up s 110 0 (s 7 0)) 110 1 ((px_up s 110 0 (s 7 0)) 7 1)) 7 2)) 110 3 ((px_up (px_up (px_up s 110 0 (s 7 0)) 110 1 ((px_up s 110 0 (s 7 0)) 7 1)) 110 2 ((px_up (px_up s 110 0 (s 7 0)) 110 1 ((px_up s 110 0 (s 7 0)) 7 1)) 7 2)) 7 3)) 7 4)) 7 5)) 7 6)) 110 7 ((px_up (px_up (px_up (px_up (px_up (px_up (px_up s 110 0 (s 7 0)) 110 1 ((px_up s 110 0 (s 7 0)) 7 1)) 110 2 ((px_up (px_up s 110 0 (s 7 0)) 110 1 ((px_up s 110 0 (s 7 0)) 7 1)) 7 2)) 110 3 ((px_up (px_up (px_up s 110 0 (s 7 0)) 110 1 ((px_up s 110 0 (s 7 0)) 7 1)) 110 2 ((px_up (px_up s 110 0 (s 7 0)) 110 1 ((px_up s 110 0 (s 7 0)) 7 1)) 7 2)) 7 3)) 110 4 ((px_up (px_up (px_up (px_up s 110 0 (s 7 0)) 110 1 ((px_up s 110 0 (s 7 0)) 7 1)) 110 2 ((px_up (px_up s 110 0 (s 7 0)) 110 1 ((px_up s 110 0 (s 7 0)) 7 1)) 7 2)) 110 3 ((px_up (px_up (px_up s 110 0 (s 7 0)) 110 1 ((px_up s 110 0 (s 7 0)) 7 1)) 110 2 ((px_up (px_up s 110 0 (s 7 0)) 110 1 ((px_up s 110 0 (s 7 0)) 7 1)) 7 2)) 7 3)) 7 4)) 110 5 ((px_up (px_up (px_up (px_up (px_up s 110 0 (s 7 0)) 110 1 ((px_up s 110 0 (s 7 0)) 7 1)) 110 2 ((px_up (px_up s 110 0 (s 7 0)) 110 1 ((px_up s 110 0 (s 7 0)) 7 1)) 7 2)) 110 3 ((px_up (px_up (px_up s 110 0 (s 7 0)) 110 1 ((px_up s 110 0 (s 7 0)) 7 1)) 110 2 ((px_up (px_up s 110 0 (s 7 0)) 110 1 ((px_up s 110 0 (s 7 0)) 7 1)) 7 2)) 7 3)) 110 4 ((px_up (px_up (px_up (px_up s 110 0 (s 7 0)) 110 1 ((px_up s 110 0 (s 7 0)) 7 1)) 110 2 ((px_up (px_up s 110 0 (s 7 0)) 110 1 ((px_up s 110 0 (s 7 0)) 7 1)) 7 2)) 110 3 ((px_up (px_up (px_up s 110 0 (s 7 0)) 110 1 ((px_up s 110 0 (s 7 0)) 7 1)) 110 2 ((px_up (px_up s 110 0 (s 7 0)) 110 1 ((px_up s 110 0 (s 7 0)) 7 1)) 7 2)) 7 3)) 7 4)) 7 5)) 110 6 ((px_up (px_up (px_up (px_up (px_up (px_up s 110 0 (s 7 0)) 110 1 ((px_up s 110 0 (s 7 0)) 7 1)) 110 2 ((px_up (px_up s 110 0 (s 7 0)) 110 1 ((px_up s 110 0 (s 7 0)) 7 1)) 7 2)) 110 3 ((px_up (px_up (px_up s 110 0 (s 7 0)) 110 1 ((px_up s 110 0 (s 7 0)) 7 1)) 110 2 ((px_up (px_up s 110 0 (s 7 0)) 110 1 ((px_up s 110 0 (s 7 0)) 7 1)) 7 2)) 7 3)) 110 4 ((px_up (px_up (px_up (px_up s 110 0 (s 7 0)) 110 1 ((px_up s 110 0 (s 7 0)) 7 1)) 110 2 ((px_up (px_up s 110 0 (s 7 0)) 110 1 ((px_up s 110 0 (s 7 0)) 7 1)) 7 2)) 110 3 ((px_up (px_up (px_up s 110 0 (s 7 0)) 110 1 ((px_up s 110 0 (s 7 0)) 7 1)) 110 2 ((px_up (px_up s 110 0 (s 7 0)) 110 1 ((px_up s 110 0 (s 7 0)) 7 1)) 7 2)) 7 3)) 7 4)) 110 5 ((px_up (px_up (px_up (px_up (px_up s 110 0 (s 7 0)) 110 1 ((px_up s 110 0 (s 7 0)) 7 1)) 110 2 ((px_up (px_up s 110 0 (s 7 0)) 110 1 ((px_up s 110 0 (s 7 0)) 7 1)) 7 2)) 110 3 ((px_up (px_up (px_up s 110 0 (s 7 0)) 110 1 ((px_up s 110 0 (s 7 0)) 7 1)) 110 2 ((px_up (px_up s 110 0 (s 7 0)) 110 1 ((px_up s 110 0 (s 7 0)) 7 1)) 7 2)) 7 3)) 110 4 ((px_up (px_up (px_up (px_up s 110 0 (s 7 0)) 110 1 ((px_up s 110 0 (s 7 0)) 7 1)) 110 2 ((px_up (px_up s 110 0 (s 7 0)) 110 1 ((px_up s 110 0 (s 7 0)) 7 1)) 7 2)) 110 3 ((px_up (px_up (px_up s 110 0 (s 7 0)) 110 1 ((px_up s 110 0 (s 7 0)) 7 1)) 110 2 ((px_up (px_up s 110 0 (s 7 0)) 110 1 ((px_up s 110 0 (s 7 0)) 7 1)) 7 2)) 7 3)) 7 4)) 7 5)) 7 6)) 7 7)) 8 111 0 0 8) 9 112 0 0 8) 10 113 0 0 8) 11 114 0 0 8) else none
set_option maxHeartbeats 4000000 in
set_option maxRecDepth 100000 in
theorem c_Fate_become_3 {sc : List Int} {d : Nat} {s : px_Z} {out : px_Z} (h : f_Fate_become_3 s  = some out) : px_D sc (d + 0) 1 0 [(0, .inr (.inr 110)), (1, .inr (.inr 7))] [] (px_G1, s) (px_Qv out) := by
  unfold f_Fate_become_3 at h
  refine px_D_st 27 (ip1 := 27) (ls1 := [(0, .inr (.inr 110)), (1, .inr (.inr 7))]) (st1 := [.inl ((px_up (px_up (px_up (px_up (px_up (px_up s 110 0 (s 7 0)) 110 1 ((px_up s 110 0 (s 7 0)) 7 1)) 110 2 ((px_up (px_up s 110 0 (s 7 0)) 110 1 ((px_up s 110 0 (s 7 0)) 7 1)) 7 2)) 110 3 ((px_up (px_up (px_up s 110 0 (s 7 0)) 110 1 ((px_up s 110 0 (s 7 0)) 7 1)) 110 2 ((px_up (px_up s 110 0 (s 7 0)) 110 1 ((px_up s 110 0 (s 7 0)) 7 1)) 7 2)) 7 3)) 110 4 ((px_up (px_up (px_up (px_up s 110 0 (s 7 0)) 110 1 ((px_up s 110 0 (s 7 0)) 7 1)) 110 2 ((px_up (px_up s 110 0 (s 7 0)) 110 1 ((px_up s 110 0 (s 7 0)) 7 1)) 7 2)) 110 3 ((px_up (px_up (px_up s 110 0 (s 7 0)) 110 1 ((px_up s 110 0 (s 7 0)) 7 1)) 110 2 ((px_up (px_up s 110 0 (s 7 0)) 110 1 ((px_up s 110 0 (s 7 0)) 7 1)) 7 2)) 7 3)) 7 4)) 110 5 ((px_up (px_up (px_up (px_up (px_up s 110 0 (s 7 0)) 110 1 ((px_up s 110 0 (s 7 0)) 7 1)) 110 2 ((px_up (px_up s 110 0 (s 7 0)) 110 1 ((px_up s 110 0 (s 7 0)) 7 1)) 7 2)) 110 3 ((px_up (px_up (px_up s 110 0 (s 7 0)) 110 1 ((px_up s 110 0 (s 7 0)) 7 1)) 110 2 ((px_up (px_up s 110 0 (s 7 0)) 110 1 ((px_up s 110 0 (s 7 0)) 7 1)) 7 2)) 7 3)) 110 4 ((px_up (px_up (px_up (px_up s 110 0 (s 7 0)) 110 1 ((px_up s 110 0 (s 7 0)) 7 1)) 110 2 ((px_up (px_up s 110 0 (s 7 0)) 110 1 ((px_up s 110 0 (s 7 0)) 7 1)) 7 2)) 110 3 ((px_up (px_up (px_up s 110 0 (s 7 0)) 110 1 ((px_up s 110 0 (s 7 0)) 7 1)) 110 2 ((px_up (px_up s 110 0 (s 7 0)) 110 1 ((px_up s 110 0 (s 7 0)) 7 1)) 7 2)) 7 3)) 7 4)) 7 5)) 7 6), .inr (.inr 110)]) (h1 := (px_G1, px_up (px_up (px_up (px_up (px_up (px_up s 110 0 (s 7 0)) 110 1 ((px_up s 110 0 (s 7 0)) 7 1)) 110 2 ((px_up (px_up s 110 0 (s 7 0)) 110 1 ((px_up s 110 0 (s 7 0)) 7 1)) 7 2)) 110 3 ((px_up (px_up (px_up s 110 0 (s 7 0)) 110 1 ((px_up s 110 0 (s 7 0)) 7 1)) 110 2 ((px_up (px_up s 110 0 (s 7 0)) 110 1 ((px_up s 110 0 (s 7 0)) 7 1)) 7 2)) 7 3)) 110 4 ((px_up (px_up (px_up (px_up s 110 0 (s 7 0)) 110 1 ((px_up s 110 0 (s 7 0)) 7 1)) 110 2 ((px_up (px_up s 110 0 (s 7 0)) 110 1 ((px_up s 110 0 (s 7 0)) 7 1)) 7 2)) 110 3 ((px_up (px_up (px_up s 110 0 (s 7 0)) 110 1 ((px_up s 110 0 (s 7 0)) 7 1)) 110 2 ((px_up (px_up s 110 0 (s 7 0)) 110 1 ((px_up s 110 0 (s 7 0)) 7 1)) 7 2)) 7 3)) 7 4)) 110 5 ((px_up (px_up (px_up (px_up (px_up s 110 0 (s 7 0)) 110 1 ((px_up s 110 0 (s 7 0)) 7 1)) 110 2 ((px_up (px_up s 110 0 (s 7 0)) 110 1 ((px_up s 110 0 (s 7 0)) 7 1)) 7 2)) 110 3 ((px_up (px_up (px_up s 110 0 (s 7 0)) 110 1 ((px_up s 110 0 (s 7 0)) 7 1)) 110 2 ((px_up (px_up s 110 0 (s 7 0)) 110 1 ((px_up s 110 0 (s 7 0)) 7 1)) 7 2)) 7 3)) 110 4 ((px_up (px_up (px_up (px_up s 110 0 (s 7 0)) 110 1 ((px_up s 110 0 (s 7 0)) 7 1)) 110 2 ((px_up (px_up s 110 0 (s 7 0)) 110 1 ((px_up s 110 0 (s 7 0)) 7 1)) 7 2)) 110 3 ((px_up (px_up (px_up s 110 0 (s 7 0)) 110 1 ((px_up s 110 0 (s 7 0)) 7 1)) 110 2 ((px_up (px_up s 110 0 (s 7 0)) 110 1 ((px_up s 110 0 (s 7 0)) 7 1)) 7 2)) 7 3)) 7 4)) 7 5))) rfl ?_
  by_cases hc1 : ((px_up (px_up (px_up (px_up (px_up (px_up s 110 0 (s 7 0)) 110 1 ((px_up s 110 0 (s 7 0)) 7 1)) 110 2 ((px_up (px_up s 110 0 (s 7 0)) 110 1 ((px_up s 110 0 (s 7 0)) 7 1)) 7 2)) 110 3 ((px_up (px_up (px_up s 110 0 (s 7 0)) 110 1 ((px_up s 110 0 (s 7 0)) 7 1)) 110 2 ((px_up (px_up s 110 0 (s 7 0)) 110 1 ((px_up s 110 0 (s 7 0)) 7 1)) 7 2)) 7 3)) 110 4 ((px_up (px_up (px_up (px_up s 110 0 (s 7 0)) 110 1 ((px_up s 110 0 (s 7 0)) 7 1)) 110 2 ((px_up (px_up s 110 0 (s 7 0)) 110 1 ((px_up s 110 0 (s 7 0)) 7 1)) 7 2)) 110 3 ((px_up (px_up (px_up s 110 0 (s 7 0)) 110 1 ((px_up s 110 0 (s 7 0)) 7 1)) 110 2 ((px_up (px_up s 110 0 (s 7 0)) 110 1 ((px_up s 110 0 (s 7 0)) 7 1)) 7 2)) 7 3)) 7 4)) 110 5 ((px_up (px_up (px_up (px_up (px_up s 110 0 (s 7 0)) 110 1 ((px_up s 110 0 (s 7 0)) 7 1)) 110 2 ((px_up (px_up s 110 0 (s 7 0)) 110 1 ((px_up s 110 0 (s 7 0)) 7 1)) 7 2)) 110 3 ((px_up (px_up (px_up s 110 0 (s 7 0)) 110 1 ((px_up s 110 0 (s 7 0)) 7 1)) 110 2 ((px_up (px_up s 110 0 (s 7 0)) 110 1 ((px_up s 110 0 (s 7 0)) 7 1)) 7 2)) 7 3)) 110 4 ((px_up (px_up (px_up (px_up s 110 0 (s 7 0)) 110 1 ((px_up s 110 0 (s 7 0)) 7 1)) 110 2 ((px_up (px_up s 110 0 (s 7 0)) 110 1 ((px_up s 110 0 (s 7 0)) 7 1)) 7 2)) 110 3 ((px_up (px_up (px_up s 110 0 (s 7 0)) 110 1 ((px_up s 110 0 (s 7 0)) 7 1)) 110 2 ((px_up (px_up s 110 0 (s 7 0)) 110 1 ((px_up s 110 0 (s 7 0)) 7 1)) 7 2)) 7 3)) 7 4)) 7 5)) 7 6) = 0 ∨ ((px_up (px_up (px_up (px_up (px_up (px_up s 110 0 (s 7 0)) 110 1 ((px_up s 110 0 (s 7 0)) 7 1)) 110 2 ((px_up (px_up s 110 0 (s 7 0)) 110 1 ((px_up s 110 0 (s 7 0)) 7 1)) 7 2)) 110 3 ((px_up (px_up (px_up s 110 0 (s 7 0)) 110 1 ((px_up s 110 0 (s 7 0)) 7 1)) 110 2 ((px_up (px_up s 110 0 (s 7 0)) 110 1 ((px_up s 110 0 (s 7 0)) 7 1)) 7 2)) 7 3)) 110 4 ((px_up (px_up (px_up (px_up s 110 0 (s 7 0)) 110 1 ((px_up s 110 0 (s 7 0)) 7 1)) 110 2 ((px_up (px_up s 110 0 (s 7 0)) 110 1 ((px_up s 110 0 (s 7 0)) 7 1)) 7 2)) 110 3 ((px_up (px_up (px_up s 110 0 (s 7 0)) 110 1 ((px_up s 110 0 (s 7 0)) 7 1)) 110 2 ((px_up (px_up s 110 0 (s 7 0)) 110 1 ((px_up s 110 0 (s 7 0)) 7 1)) 7 2)) 7 3)) 7 4)) 110 5 ((px_up (px_up (px_up (px_up (px_up s 110 0 (s 7 0)) 110 1 ((px_up s 110 0 (s 7 0)) 7 1)) 110 2 ((px_up (px_up s 110 0 (s 7 0)) 110 1 ((px_up s 110 0 (s 7 0)) 7 1)) 7 2)) 110 3 ((px_up (px_up (px_up s 110 0 (s 7 0)) 110 1 ((px_up s 110 0 (s 7 0)) 7 1)) 110 2 ((px_up (px_up s 110 0 (s 7 0)) 110 1 ((px_up s 110 0 (s 7 0)) 7 1)) 7 2)) 7 3)) 110 4 ((px_up (px_up (px_up (px_up s 110 0 (s 7 0)) 110 1 ((px_up s 110 0 (s 7 0)) 7 1)) 110 2 ((px_up (px_up s 110 0 (s 7 0)) 110 1 ((px_up s 110 0 (s 7 0)) 7 1)) 7 2)) 110 3 ((px_up (px_up (px_up s 110 0 (s 7 0)) 110 1 ((px_up s 110 0 (s 7 0)) 7 1)) 110 2 ((px_up (px_up s 110 0 (s 7 0)) 110 1 ((px_up s 110 0 (s 7 0)) 7 1)) 7 2)) 7 3)) 7 4)) 7 5)) 7 6) = 1
  case neg => rw [if_neg hc1] at h; cases h
  rw [if_pos hc1] at h
  refine px_D_putz (k := 105) rfl rfl rfl rfl hc1 ?_
  refine px_D_st 36 (ip1 := 64) (ls1 := [(0, .inr (.inr 110)), (1, .inr (.inr 7))]) (st1 := []) (h1 := (px_G1, px_cp (px_cp (px_cp (px_cp (px_up (px_up (px_up (px_up (px_up (px_up (px_up (px_up s 110 0 (s 7 0)) 110 1 ((px_up s 110 0 (s 7 0)) 7 1)) 110 2 ((px_up (px_up s 110 0 (s 7 0)) 110 1 ((px_up s 110 0 (s 7 0)) 7 1)) 7 2)) 110 3 ((px_up (px_up (px_up s 110 0 (s 7 0)) 110 1 ((px_up s 110 0 (s 7 0)) 7 1)) 110 2 ((px_up (px_up s 110 0 (s 7 0)) 110 1 ((px_up s 110 0 (s 7 0)) 7 1)) 7 2)) 7 3)) 110 4 ((px_up (px_up (px_up (px_up s 110 0 (s 7 0)) 110 1 ((px_up s 110 0 (s 7 0)) 7 1)) 110 2 ((px_up (px_up s 110 0 (s 7 0)) 110 1 ((px_up s 110 0 (s 7 0)) 7 1)) 7 2)) 110 3 ((px_up (px_up (px_up s 110 0 (s 7 0)) 110 1 ((px_up s 110 0 (s 7 0)) 7 1)) 110 2 ((px_up (px_up s 110 0 (s 7 0)) 110 1 ((px_up s 110 0 (s 7 0)) 7 1)) 7 2)) 7 3)) 7 4)) 110 5 ((px_up (px_up (px_up (px_up (px_up s 110 0 (s 7 0)) 110 1 ((px_up s 110 0 (s 7 0)) 7 1)) 110 2 ((px_up (px_up s 110 0 (s 7 0)) 110 1 ((px_up s 110 0 (s 7 0)) 7 1)) 7 2)) 110 3 ((px_up (px_up (px_up s 110 0 (s 7 0)) 110 1 ((px_up s 110 0 (s 7 0)) 7 1)) 110 2 ((px_up (px_up s 110 0 (s 7 0)) 110 1 ((px_up s 110 0 (s 7 0)) 7 1)) 7 2)) 7 3)) 110 4 ((px_up (px_up (px_up (px_up s 110 0 (s 7 0)) 110 1 ((px_up s 110 0 (s 7 0)) 7 1)) 110 2 ((px_up (px_up s 110 0 (s 7 0)) 110 1 ((px_up s 110 0 (s 7 0)) 7 1)) 7 2)) 110 3 ((px_up (px_up (px_up s 110 0 (s 7 0)) 110 1 ((px_up s 110 0 (s 7 0)) 7 1)) 110 2 ((px_up (px_up s 110 0 (s 7 0)) 110 1 ((px_up s 110 0 (s 7 0)) 7 1)) 7 2)) 7 3)) 7 4)) 7 5)) 110 6 ((px_up (px_up (px_up (px_up (px_up (px_up s 110 0 (s 7 0)) 110 1 ((px_up s 110 0 (s 7 0)) 7 1)) 110 2 ((px_up (px_up s 110 0 (s 7 0)) 110 1 ((px_up s 110 0 (s 7 0)) 7 1)) 7 2)) 110 3 ((px_up (px_up (px_up s 110 0 (s 7 0)) 110 1 ((px_up s 110 0 (s 7 0)) 7 1)) 110 2 ((px_up (px_up s 110 0 (s 7 0)) 110 1 ((px_up s 110 0 (s 7 0)) 7 1)) 7 2)) 7 3)) 110 4 ((px_up (px_up (px_up (px_up s 110 0 (s 7 0)) 110 1 ((px_up s 110 0 (s 7 0)) 7 1)) 110 2 ((px_up (px_up s 110 0 (s 7 0)) 110 1 ((px_up s 110 0 (s 7 0)) 7 1)) 7 2)) 110 3 ((px_up (px_up (px_up s 110 0 (s 7 0)) 110 1 ((px_up s 110 0 (s 7 0)) 7 1)) 110 2 ((px_up (px_up s 110 0 (s 7 0)) 110 1 ((px_up s 110 0 (s 7 0)) 7 1)) 7 2)) 7 3)) 7 4)) 110 5 ((px_up (px_up (px_up (px_up (px_up s 110 0 (s 7 0)) 110 1 ((px_up s 110 0 (s 7 0)) 7 1)) 110 2 ((px_up (px_up s 110 0 (s 7 0)) 110 1 ((px_up s 110 0 (s 7 0)) 7 1)) 7 2)) 110 3 ((px_up (px_up (px_up s 110 0 (s 7 0)) 110 1 ((px_up s 110 0 (s 7 0)) 7 1)) 110 2 ((px_up (px_up s 110 0 (s 7 0)) 110 1 ((px_up s 110 0 (s 7 0)) 7 1)) 7 2)) 7 3)) 110 4 ((px_up (px_up (px_up (px_up s 110 0 (s 7 0)) 110 1 ((px_up s 110 0 (s 7 0)) 7 1)) 110 2 ((px_up (px_up s 110 0 (s 7 0)) 110 1 ((px_up s 110 0 (s 7 0)) 7 1)) 7 2)) 110 3 ((px_up (px_up (px_up s 110 0 (s 7 0)) 110 1 ((px_up s 110 0 (s 7 0)) 7 1)) 110 2 ((px_up (px_up s 110 0 (s 7 0)) 110 1 ((px_up s 110 0 (s 7 0)) 7 1)) 7 2)) 7 3)) 7 4)) 7 5)) 7 6)) 110 7 ((px_up (px_up (px_up (px_up (px_up (px_up (px_up s 110 0 (s 7 0)) 110 1 ((px_up s 110 0 (s 7 0)) 7 1)) 110 2 ((px_up (px_up s 110 0 (s 7 0)) 110 1 ((px_up s 110 0 (s 7 0)) 7 1)) 7 2)) 110 3 ((px_up (px_up (px_up s 110 0 (s 7 0)) 110 1 ((px_up s 110 0 (s 7 0)) 7 1)) 110 2 ((px_up (px_up s 110 0 (s 7 0)) 110 1 ((px_up s 110 0 (s 7 0)) 7 1)) 7 2)) 7 3)) 110 4 ((px_up (px_up (px_up (px_up s 110 0 (s 7 0)) 110 1 ((px_up s 110 0 (s 7 0)) 7 1)) 110 2 ((px_up (px_up s 110 0 (s 7 0)) 110 1 ((px_up s 110 0 (s 7 0)) 7 1)) 7 2)) 110 3 ((px_up (px_up (px_up s 110 0 (s 7 0)) 110 1 ((px_up s 110 0 (s 7 0)) 7 1)) 110 2 ((px_up (px_up s 110 0 (s 7 0)) 110 1 ((px_up s 110 0 (s 7 0)) 7 1)) 7 2)) 7 3)) 7 4)) 110 5 ((px_up (px_up (px_up (px_up (px_up s 110 0 (s 7 0)) 110 1 ((px_up s 110 0 (s 7 0)) 7 1)) 110 2 ((px_up (px_up s 110 0 (s 7 0)) 110 1 ((px_up s 110 0 (s 7 0)) 7 1)) 7 2)) 110 3 ((px_up (px_up (px_up s 110 0 (s 7 0)) 110 1 ((px_up s 110 0 (s 7 0)) 7 1)) 110 2 ((px_up (px_up s 110 0 (s 7 0)) 110 1 ((px_up s 110 0 (s 7 0)) 7 1)) 7 2)) 7 3)) 110 4 ((px_up (px_up (px_up (px_up s 110 0 (s 7 0)) 110 1 ((px_up s 110 0 (s 7 0)) 7 1)) 110 2 ((px_up (px_up s 110 0 (s 7 0)) 110 1 ((px_up s 110 0 (s 7 0)) 7 1)) 7 2)) 110 3 ((px_up (px_up (px_up s 110 0 (s 7 0)) 110 1 ((px_up s 110 0 (s 7 0)) 7 1)) 110 2 ((px_up (px_up s 110 0 (s 7 0)) 110 1 ((px_up s 110 0 (s 7 0)) 7 1)) 7 2)) 7 3)) 7 4)) 7 5)) 110 6 ((px_up (px_up (px_up (px_up (px_up (px_up s 110 0 (s 7 0)) 110 1 ((px_up s 110 0 (s 7 0)) 7 1)) 110 2 ((px_up (px_up s 110 0 (s 7 0)) 110 1 ((px_up s 110 0 (s 7 0)) 7 1)) 7 2)) 110 3 ((px_up (px_up (px_up s 110 0 (s 7 0)) 110 1 ((px_up s 110 0 (s 7 0)) 7 1)) 110 2 ((px_up (px_up s 110 0 (s 7 0)) 110 1 ((px_up s 110 0 (s 7 0)) 7 1)) 7 2)) 7 3)) 110 4 ((px_up (px_up (px_up (px_up s 110 0 (s 7 0)) 110 1 ((px_up s 110 0 (s 7 0)) 7 1)) 110 2 ((px_up (px_up s 110 0 (s 7 0)) 110 1 ((px_up s 110 0 (s 7 0)) 7 1)) 7 2)) 110 3 ((px_up (px_up (px_up s 110 0 (s 7 0)) 110 1 ((px_up s 110 0 (s 7 0)) 7 1)) 110 2 ((px_up (px_up s 110 0 (s 7 0)) 110 1 ((px_up s 110 0 (s 7 0)) 7 1)) 7 2)) 7 3)) 7 4)) 110 5 ((px_up (px_up (px_up (px_up (px_up s 110 0 (s 7 0)) 110 1 ((px_up s 110 0 (s 7 0)) 7 1)) 110 2 ((px_up (px_up s 110 0 (s 7 0)) 110 1 ((px_up s 110 0 (s 7 0)) 7 1)) 7 2)) 110 3 ((px_up (px_up (px_up s 110 0 (s 7 0)) 110 1 ((px_up s 110 0 (s 7 0)) 7 1)) 110 2 ((px_up (px_up s 110 0 (s 7 0)) 110 1 ((px_up s 110 0 (s 7 0)) 7 1)) 7 2)) 7 3)) 110 4 ((px_up (px_up (px_up (px_up s 110 0 (s 7 0)) 110 1 ((px_up s 110 0 (s 7 0)) 7 1)) 110 2 ((px_up (px_up s 110 0 (s 7 0)) 110 1 ((px_up s 110 0 (s 7 0)) 7 1)) 7 2)) 110 3 ((px_up (px_up (px_up s 110 0 (s 7 0)) 110 1 ((px_up s 110 0 (s 7 0)) 7 1)) 110 2 ((px_up (px_up s 110 0 (s 7 0)) 110 1 ((px_up s 110 0 (s 7 0)) 7 1)) 7 2)) 7 3)) 7 4)) 7 5)) 7 6)) 7 7)) 8 111 0 0 8) 9 112 0 0 8) 10 113 0 0 8) 11 114 0 0 8)) rfl ?_
  cases h
  exact px_D_vret rfl ⟨rfl, rfl⟩

def f_Fate_become_4 (s : px_Z) : Option (px_Z) := if ((px_up (px_up (px_up (px_up (px_up (px_up s 115 0 (s 7 0)) 115 1 ((px_up s 115 0 (s 7 0)) 7 1)) 115 2 ((px_up (px_up s 115 0 (s 7 0)) 115 1 ((px_up s 115 0 (s 7 0)) 7 1)) 7 2)) 115 3 ((px_up (px_up (px_up s 115 0 (s 7 0)) 115 1 ((px_up s 115 0 (s 7 0)) 7 1)) 115 2 ((px_up (px_up s 115 0 (s 7 0)) 115 1 ((px_up s 115 0 (s 7 0)) 7 1)) 7 2)) 7 3)) 115 4 ((px_up (px_up (px_up (px_up s 115 0 (s 7 0)) 115 1 ((px_up s 115 0 (s 7 0)) 7 1)) 115 2 ((px_up (px_up s 115 0 (s 7 0)) 115 1 ((px_up s 115 0 (s 7 0)) 7 1)) 7 2)) 115 3 ((px_up (px_up (px_up s 115 0 (s 7 0)) 115 1 ((px_up s 115 0 (s 7 0)) 7 1)) 115 2 ((px_up (px_up s 115 0 (s 7 0)) 115 1 ((px_up s 115 0 (s 7 0)) 7 1)) 7 2)) 7 3)) 7 4)) 115 5 ((px_up (px_up (px_up (px_up (px_up s 115 0 (s 7 0)) 115 1 ((px_up s 115 0 (s 7 0)) 7 1)) 115 2 ((px_up (px_up s 115 0 (s 7 0)) 115 1 ((px_up s 115 0 (s 7 0)) 7 1)) 7 2)) 115 3 ((px_up (px_up (px_up s 115 0 (s 7 0)) 115 1 ((px_up s 115 0 (s 7 0)) 7 1)) 115 2 ((px_up (px_up s 115 0 (s 7 0)) 115 1 ((px_up s 115 0 (s 7 0)) 7 1)) 7 2)) 7 3)) 115 4 ((px_up (px_up (px_up (px_up s 115 0 (s 7 0)) 115 1 ((px_up s 115 0 (s 7 0)) 7 1)) 115 2 ((px_up (px_up s 115 0 (s 7 0)) 115 1 ((px_up s 115 0 (s 7 0)) 7 1)) 7 2)) 115 3 ((px_up (px_up (px_up s 115 0 (s 7 0)) 115 1 ((px_up s 115 0 (s 7 0)) 7 1)) 115 2 ((px_up (px_up s 115 0 (s 7 0)) 115 1 ((px_up s 115 0 (s 7 0)) 7 1)) 7 2)) 7 3)) 7 4)) 7 5)) 7 6) = 0 ∨ ((px_up (px_up (px_up (px_up (px_up (px_up s 115 0 (s 7 0)) 115 1 ((px_up s 115 0 (s 7 0)) 7 1)) 115 2 ((px_up (px_up s 115 0 (s 7 0)) 115 1 ((px_up s 115 0 (s 7 0)) 7 1)) 7 2)) 115 3 ((px_up (px_up (px_up s 115 0 (s 7 0)) 115 1 ((px_up s 115 0 (s 7 0)) 7 1)) 115 2 ((px_up (px_up s 115 0 (s 7 0)) 115 1 ((px_up s 115 0 (s 7 0)) 7 1)) 7 2)) 7 3)) 115 4 ((px_up (px_up (px_up (px_up s 115 0 (s 7 0)) 115 1 ((px_up s 115 0 (s 7 0)) 7 1)) 115 2 ((px_up (px_up s 115 0 (s 7 0)) 115 1 ((px_up s 115 0 (s 7 0)) 7 1)) 7 2)) 115 3 ((px_up (px_up (px_up s 115 0 (s 7 0)) 115 1 ((px_up s 115 0 (s 7 0)) 7 1)) 115 2 ((px_up (px_up s 115 0 (s 7 0)) 115 1 ((px_up s 115 0 (s 7 0)) 7 1)) 7 2)) 7 3)) 7 4)) 115 5 ((px_up (px_up (px_up (px_up (px_up s 115 0 (s 7 0)) 115 1 ((px_up s 115 0 (s 7 0)) 7 1)) 115 2 ((px_up (px_up s 115 0 (s 7 0)) 115 1 ((px_up s 115 0 (s 7 0)) 7 1)) 7 2)) 115 3 ((px_up (px_up (px_up s 115 0 (s 7 0)) 115 1 ((px_up s 115 0 (s 7 0)) 7 1)) 115 2 ((px_up (px_up s 115 0 (s 7 0)) 115 1 ((px_up s 115 0 (s 7 0)) 7 1)) 7 2)) 7 3)) 115 4 ((px_up (px_up (px_up (px_up s 115 0 (s 7 0)) 115 1 ((px_up s 115 0 (s 7 0)) 7 1)) 115 2 ((px_up (px_up s 115 0 (s 7 0)) 115 1 ((px_up s 115 0 (s 7 0)) 7 1)) 7 2)) 115 3 ((px_up (px_up (px_up s 115 0 (s 7 0)) 115 1 ((px_up s 115 0 (s 7 0)) 7 1)) 115 2 ((px_up (px_up s 115 0 (s 7 0)) 115 1 ((px_up s 115 0 (s 7 0)) 7 1)) 7 2)) 7 3)) 7 4)) 7 5)) 7 6) = 1 then some (px_cp (px_cp (px_cp (px_cp (px_up (px_up (px_up (px_up (px_up (px_up (px_up (px_up s 115 0 (s 7 0)) 115 1 ((px_up s 115 0 (s 7 0)) 7 1)) 115 2 ((px_up (px_up s 115 0 (s 7 0)) 115 1 ((px_up s 115 0 (s 7 0)) 7 1)) 7 2)) 115 3 ((px_up (px_up (px_up s 115 0 (s 7 0)) 115 1 ((px_up s 115 0 (s 7 0)) 7 1)) 115 2 ((px_up (px_up s 115 0 (s 7 0)) 115 1 ((px_up s 115 0 (s 7 0)) 7 1)) 7 2)) 7 3)) 115 4 ((px_up (px_up (px_up (px_up s 115 0 (s 7 0)) 115 1 ((px_up s 115 0 (s 7 0)) 7 1)) 115 2 ((px_up (px_up s 115 0 (s 7 0)) 115 1 ((px_up s 115 0 (s 7 0)) 7 1)) 7 2)) 115 3 ((px_up (px_up (px_up s 115 0 (s 7 0)) 115 1 ((px_up s 115 0 (s 7 0)) 7 1)) 115 2 ((px_up (px_up s 115 0 (s 7 0)) 115 1 ((px_up s 115 0 (s 7 0)) 7 1)) 7 2)) 7 3)) 7 4)) 115 5 ((px_up (px_up (px_up (px_up (px_up s 115 0 (s 7 0)) 115 1 ((px_up s 115 0 (s 7 0)) 7 1)) 115 2 ((px_up (px_up s 115 0 (s 7 0)) 115 1 ((px_up s 115 0 (s 7 0)) 7 1)) 7 2)) 115 3 ((px_up (px_up (px_up s 115 0 (s 7 0)) 115 1 ((px_up s 115 0 (s 7 0)) 7 1)) 115 2 ((px_up (px_up s 115 0 (s 7 0)) 115 1 ((px_up s 115 0 (s 7 0)) 7 1)) 7 2)) 7 3)) 115 4 ((px_up (px_up (px_up (px_up s 115 0 (s 7 0)) 115 1 ((px_up s 115 0 (s 7 0)) 7 1)) 115 2 ((px_up (px_up s 115 0 (s 7 0)) 115 1 ((px_up s 115 0 (s 7 0)) 7 1)) 7 2)) 115 3 ((px_up (px_up (px_up s 115 0 (s 7 0)) 115 1 ((px_up s 115 0 (s 7 0)) 7 1)) 115 2 ((px_up (px_up s 115 0 (s 7 0)) 115 1 ((px_up s 115 0 (s 7 0)) 7 1)) 7 2)) 7 3)) 7 4)) 7 5)) 115 6 ((px_up (px_up (px_up (px_up (px_up (px_up s 115 0 (s 7 0)) 115 1 ((px_up s 115 0 (s 7 0)) 7 1)) 115 2 ((px_up (px_up s 115 0 (s 7 0)) 115 1 ((px_up s 115 0 (s 7 0)) 7 1)) 7 2)) 115 3 ((px_up (px_up (px_up s 115 0 (s 7 0)) 115 1 ((px_up s 115 0 (s 7 0)) 7 1)) 115 2 ((px_up (px_up s 115 0 (s 7 0)) 115 1 ((px_up s 115 0 (s 7 0)) 7 1)) 7 2)) 7 3)) 115 4 ((px_up (px_up (px_up (px_up s 115 0 (s 7 0)) 115 1 ((px_up s 115 0 (s 7 0)) 7 1)) 115 2 ((px_up (px_up s 115 0 (s 7 0)) 115 1 ((px_up s 115 0 (s 7 0)) 7 1)) 7 2)) 115 3 ((px_up (px_up (px_up s 115 0 (s 7 0)) 115 1 ((px_up s 115 0 (s 7 0)) 7 1)) 115 2 ((px_up (px_up s 115 0 (s 7 0)) 115 1 ((px_up s 115 0 (s 7 0)) 7 1)) 7 2)) 7 3)) 7 4)) 115 5 ((px_up (px_up (px_up (px_up (px_up s 115 0 (s 7 0)) 115 1 ((px_up s 115 0 (s 7 0)) 7 1)) 115 2 ((px_up (px_up s 115 0 (s 7 0)) 115 1 ((px_up s 115 0 (s 7 0)) 7 1)) 7 2)) 115 3 ((px_up (px_up (px_up s 115 0 (s 7 0)) 115 1 ((px_up s 115 0 (s 7 0)) 7 1)) 115 2 ((px_up (px_up s 115 0 (s 7 0)) 115 1 ((px_up s 115 0 (s 7 0)) 7 1)) 7 2)) 7 3)) 115 4 ((px_up (px_up (px_up (px_up s 115 0 (s 7 0)) 115 1 ((px_up s 115 0 (s 7 0)) 7 1)) 115 2 ((px_up (px_up s 115 0 (s 7 0)) 115 1 ((px_up s 115 0 (s 7 0)) 7 1)) 7 2)) 115 3 ((px_up (px_up (px_up s 115 0 (s 7 0)) 115 1 ((px_up s 115 0 (s 7 0)) 7 1)) 115 2 ((px_up (px_up s 115 0 (s 7 0)) 115 1 ((px_up s 115 0 (s 7 0)) 7 1)) 7 2)) 7 3)) 7 4)) 7 5)) 7 6)) 115 7 ((px_up (px_up (px_up (px_up (px_up (px_up (px_up s 115 0 (s 7 0)) 115 1 ((px_up s 115 0 (s 7 0)) 7 1)) 115 2 ((px_up (px_up s 115 0 (s 7 0)) 115 1 ((px_up s 115 0 (s 7 0)) 7 1)) 7 2)) 115 3 ((px_up (px_up (px_up s 115 0 (s 7 0)) 115 1 ((px_up s 115 0 (s 7 0)) 7 1)) 115 2 ((px_up (px_up s 115 0 (s 7 0)) 115 1 ((px_up s 115 0 (s 7 0)) 7 1)) 7 2)) 7 3)) 115 4 ((px_up (px_up (px_up (px_up s 115 0 (s 7 0)) 115 1 ((px_up s 115 0 (s 7 0)) 7 1)) 115 2 ((px_up (px_up s 115 0 (s 7 0)) 115 1 ((px_up s 115 0 (s 7 0)) 7 1)) 7 2)) 115 3 ((px_up (px_up (px_up s 115 0 (s 7 0)) 115 1 ((px_up s 115 0 (s 7 0)) 7 1)) 115 2 ((px_up (px_up s 115 0 (s 7 0)) 115 1 ((px_up s 115 0 (s 7 0)) 7 1)) 7 2)) 7 3)) 7 4)) 115 5 ((px_up (px_up (px_up (px_up (px_up s 115 0 (s 7 0)) 115 1 ((px_up s 115 0 (s 7 0)) 7 1)) 115 2 ((px_up (px_up s 115 0 (s 7 0)) 115 1 ((px_up s 115 0 (s 7 0)) 7 1)) 7 2)) 115 3 ((px_up (px_up (px_up s 115 0 (s 7 0)) 115 1 ((px_up s 115 0 (s 7 0)) 7 1)) 115 2 ((px_up (px_up s 115 0 (s 7 0)) 115 1 ((px_up s 115 0 (s 7 0)) 7 1)) 7 2)) 7 3)) 115 4 ((px_up (px_up (px_up (px_up s 115 0 (s 7 0)) 115 1 ((px_up s 115 0 (s 7 0)) 7 1)) 115 2 ((px_up (px_up s 115 0 (s 7 0)) 115 1 ((px_up s 115 0 (s 7 0)) 7 1)) 7 2)) 115 3 ((px_up (px_up (px_up s 115 0 (s 7 0)) 115 1 ((px_up s 115 0 (s 7 0)) 7 1)) 115 2 ((px_up (px_up s 115 0 (s 7 0)) 115 1 ((px_up s 115 0 (s 7 0)) 7 1)) 7 2)) 7 3)) 7 4)) 7 5)) 115 6 ((px_up (px_up (px_up (px_up (px_up (px_up s 115 0 (s 7 0)) 115 1 ((px_up s 115 0 (s 7 0)) 7 1)) 115 2 ((px_up (px_up s 115 0 (s 7 0)) 115 1 ((px_up s 115 0 (s 7 0)) 7 1)) 7 2)) 115 3 ((px_up (px_up (px_up s 115 0 (s 7 0)) 115 1 ((px_up s 115 0 (s 7 0)) 7 1)) 115 2 ((px_up (px_up s 115 0 (s 7 0)) 115 1 ((px_up s 115 0 (s 7 0)) 7 1)) 7 2)) 7 3)) 115 4 ((px_up (px_up (px_up (px_up s 115 0 (s 7 0)) 115 1 ((px_up s 115 0 (s 7 0)) 7 1)) 115 2 ((px_up (px_up s 115 0 (s 7 0)) 115 1 ((px_up s 115 0 (s 7 0)) 7 1)) 7 2)) 115 3 ((px_up (px_up (px_up s 115 0 (s 7 0)) 115 1 ((px_up s 115 0 (s 7 0)) 7 1)) 115 2 ((px_up (px_up s 115 0 (s 7 0)) 115 1 ((px_up s 115 0 (s 7 0)) 7 1)) 7 2)) 7 3)) 7 4)) 115 5 ((px_up (px_up (px_up (px_up (px_up s 115 0 (s 7 0)) 115 1 ((px_up s 115 0 (s 7 0)) 7 1)) 115 2 ((px_up (px_up s 115 0 (s 7 0)) 115 1 ((px_up s 115 0 (s 7 0)) 7 1)) 7 2)) 115 3 ((px_up (px_up (px_up s 115 0 (s 7 0)) 115 1 ((px_up s 115 0 (s 7 0)) 7 1)) 115 2 ((px_up (px_up s 115 0 (s 7 0)) 115 1 ((px_up s 115 0 (s 7 0)) 7 1)) 7 2)) 7 3)) 115 4 ((px_up (px_up (px_up (px_up s 115 0 (s 7 0)) 115 1 ((px_up s 115 0 (s 7 0)) 7 1)) 115 2 ((px_up (px_up s 115 0 (s 7 0)) 115 1 ((px_up s 115 0 (s 7 0)) 7 1)) 7 2)) 115 3 ((px_up (px_up (px_up s 115 0 (s 7 0)) 115 1 ((px_up s 115 0 (s 7 0)) 7 1)) 115 2 ((px_up (px_up s 115 0 (s 7 0)) 115 1 ((px_up s 115 0 (s 7 0)) 7 1)) 7 2)) 7 3)) 7 4)) 7 5)) 7 6)) 7 7)) 8 116 0 0 8) 9 117 0 0 8) 10 118 0 0 8) 11 119 0 0 8) else none
set_option maxHeartbeats 4000000 in
set_option maxRecDepth 100000 in
theorem c_Fate_become_4 {sc : List Int} {d : Nat} {s : px_Z} {out : px_Z} (h : f_Fate_become_4 s  = some out) : px_D sc (d + 0) 1 0 [(0, .inr (.inr 115)), (1, .inr (.inr 7))] [] (px_G1, s) (px_Qv out) := by
  unfold f_Fate_become_4 at h
  refine px_D_st 27 (ip1 := 27) (ls1 := [(0, .inr (.inr 115)), (1, .inr (.inr 7))]) (st1 := [.inl ((px_up (px_up (px_up (px_up (px_up (px_up s 115 0 (s 7 0)) 115 1 ((px_up s 115 0 (s 7 0)) 7 1)) 115 2 ((px_up (px_up s 115 0 (s 7 0)) 115 1 ((px_up s 115 0 (s 7 0)) 7 1)) 7 2)) 115 3 ((px_up (px_up (px_up s 115 0 (s 7 0)) 115 1 ((px_up s 115 0 (s 7 0)) 7 1)) 115 2 ((px_up (px_up s 115 0 (s 7 0)) 115 1 ((px_up s 115 0 (s 7 0)) 7 1)) 7 2)) 7 3)) 115 4 ((px_up (px_up (px_up (px_up s 115 0 (s 7 0)) 115 1 ((px_up s 115 0 (s 7 0)) 7 1)) 115 2 ((px_up (px_up s 115 0 (s 7 0)) 115 1 ((px_up s 115 0 (s 7 0)) 7 1)) 7 2)) 115 3 ((px_up (px_up (px_up s 115 0 (s 7 0)) 115 1 ((px_up s 115 0 (s 7 0)) 7 1)) 115 2 ((px_up (px_up s 115 0 (s 7 0)) 115 1 ((px_up s 115 0 (s 7 0)) 7 1)) 7 2)) 7 3)) 7 4)) 115 5 ((px_up (px_up (px_up (px_up (px_up s 115 0 (s 7 0)) 115 1 ((px_up s 115 0 (s 7 0)) 7 1)) 115 2 ((px_up (px_up s 115 0 (s 7 0)) 115 1 ((px_up s 115 0 (s 7 0)) 7 1)) 7 2)) 115 3 ((px_up (px_up (px_up s 115 0 (s 7 0)) 115 1 ((px_up s 115 0 (s 7 0)) 7 1)) 115 2 ((px_up (px_up s 115 0 (s 7 0)) 115 1 ((px_up s 115 0 (s 7 0)) 7 1)) 7 2)) 7 3)) 115 4 ((px_up (px_up (px_up (px_up s 115 0 (s 7 0)) 115 1 ((px_up s 115 0 (s 7 0)) 7 1)) 115 2 ((px_up (px_up s 115 0 (s 7 0)) 115 1 ((px_up s 115 0 (s 7 0)) 7 1)) 7 2)) 115 3 ((px_up (px_up (px_up s 115 0 (s 7 0)) 115 1 ((px_up s 115 0 (s 7 0)) 7 1)) 115 2 ((px_up (px_up s 115 0 (s 7 0)) 115 1 ((px_up s 115 0 (s 7 0)) 7 1)) 7 2)) 7 3)) 7 4)) 7 5)) 7 6), .inr (.inr 115)]) (h1 := (px_G1, px_up (px_up (px_up (px_up (px_up (px_up s 115 0 (s 7 0)) 115 1 ((px_up s 115 0 (s 7 0)) 7 1)) 115 2 ((px_up (px_up s 115 0 (s 7 0)) 115 1 ((px_up s 115 0 (s 7 0)) 7 1)) 7 2)) 115 3 ((px_up (px_up (px_up s 115 0 (s 7 0)) 115 1 ((px_up s 115 0 (s 7 0)) 7 1)) 115 2 ((px_up (px_up s 115 0 (s 7 0)) 115 1 ((px_up s 115 0 (s 7 0)) 7 1)) 7 2)) 7 3)) 115 4 ((px_up (px_up (px_up (px_up s 115 0 (s 7 0)) 115 1 ((px_up s 115 0 (s 7 0)) 7 1)) 115 2 ((px_up (px_up s 115 0 (s 7 0)) 115 1 ((px_up s 115 0 (s 7 0)) 7 1)) 7 2)) 115 3 ((px_up (px_up (px_up s 115 0 (s 7 0)) 115 1 ((px_up s 115 0 (s 7 0)) 7 1)) 115 2 ((px_up (px_up s 115 0 (s 7 0)) 115 1 ((px_up s 115 0 (s 7 0)) 7 1)) 7 2)) 7 3)) 7 4)) 115 5 ((px_up (px_up (px_up (px_up (px_up s 115 0 (s 7 0)) 115 1 ((px_up s 115 0 (s 7 0)) 7 1)) 115 2 ((px_up (px_up s 115 0 (s 7 0)) 115 1 ((px_up s 115 0 (s 7 0)) 7 1)) 7 2)) 115 3 ((px_up (px_up (px_up s 115 0 (s 7 0)) 115 1 ((px_up s 115 0 (s 7 0)) 7 1)) 115 2 ((px_up (px_up s 115 0 (s 7 0)) 115 1 ((px_up s 115 0 (s 7 0)) 7 1)) 7 2)) 7 3)) 115 4 ((px_up (px_up (px_up (px_up s 115 0 (s 7 0)) 115 1 ((px_up s 115 0 (s 7 0)) 7 1)) 115 2 ((px_up (px_up s 115 0 (s 7 0)) 115 1 ((px_up s 115 0 (s 7 0)) 7 1)) 7 2)) 115 3 ((px_up (px_up (px_up s 115 0 (s 7 0)) 115 1 ((px_up s 115 0 (s 7 0)) 7 1)) 115 2 ((px_up (px_up s 115 0 (s 7 0)) 115 1 ((px_up s 115 0 (s 7 0)) 7 1)) 7 2)) 7 3)) 7 4)) 7 5))) rfl ?_
  by_cases hc1 : ((px_up (px_up (px_up (px_up (px_up (px_up s 115 0 (s 7 0)) 115 1 ((px_up s 115 0 (s 7 0)) 7 1)) 115 2 ((px_up (px_up s 115 0 (s 7 0)) 115 1 ((px_up s 115 0 (s 7 0)) 7 1)) 7 2)) 115 3 ((px_up (px_up (px_up s 115 0 (s 7 0)) 115 1 ((px_up s 115 0 (s 7 0)) 7 1)) 115 2 ((px_up (px_up s 115 0 (s 7 0)) 115 1 ((px_up s 115 0 (s 7 0)) 7 1)) 7 2)) 7 3)) 115 4 ((px_up (px_up (px_up (px_up s 115 0 (s 7 0)) 115 1 ((px_up s 115 0 (s 7 0)) 7 1)) 115 2 ((px_up (px_up s 115 0 (s 7 0)) 115 1 ((px_up s 115 0 (s 7 0)) 7 1)) 7 2)) 115 3 ((px_up (px_up (px_up s 115 0 (s 7 0)) 115 1 ((px_up s 115 0 (s 7 0)) 7 1)) 115 2 ((px_up (px_up s 115 0 (s 7 0)) 115 1 ((px_up s 115 0 (s 7 0)) 7 1)) 7 2)) 7 3)) 7 4)) 115 5 ((px_up (px_up (px_up (px_up (px_up s 115 0 (s 7 0)) 115 1 ((px_up s 115 0 (s 7 0)) 7 1)) 115 2 ((px_up (px_up s 115 0 (s 7 0)) 115 1 ((px_up s 115 0 (s 7 0)) 7 1)) 7 2)) 115 3 ((px_up (px_up (px_up s 115 0 (s 7 0)) 115 1 ((px_up s 115 0 (s 7 0)) 7 1)) 115 2 ((px_up (px_up s 115 0 (s 7 0)) 115 1 ((px_up s 115 0 (s 7 0)) 7 1)) 7 2)) 7 3)) 115 4 ((px_up (px_up (px_up (px_up s 115 0 (s 7 0)) 115 1 ((px_up s 115 0 (s 7 0)) 7 1)) 115 2 ((px_up (px_up s 115 0 (s 7 0)) 115 1 ((px_up s 115 0 (s 7 0)) 7 1)) 7 2)) 115 3 ((px_up (px_up (px_up s 115 0 (s 7 0)) 115 1 ((px_up s 115 0 (s 7 0)) 7 1)) 115 2 ((px_up (px_up s 115 0 (s 7 0)) 115 1 ((px_up s 115 0 (s 7 0)) 7 1)) 7 2)) 7 3)) 7 4)) 7 5)) 7 6) = 0 ∨ ((px_up (px_up (px_up (px_up (px_up (px_up s 115 0 (s 7 0)) 115 1 ((px_up s 115 0 (s 7 0)) 7 1)) 115 2 ((px_up (px_up s 115 0 (s 7 0)) 115 1 ((px_up s 115 0 (s 7 0)) 7 1)) 7 2)) 115 3 ((px_up (px_up (px_up s 115 0 (s 7 0)) 115 1 ((px_up s 115 0 (s 7 0)) 7 1)) 115 2 ((px_up (px_up s 115 0 (s 7 0)) 115 1 ((px_up s 115 0 (s 7 0)) 7 1)) 7 2)) 7 3)) 115 4 ((px_up (px_up (px_up (px_up s 115 0 (s 7 0)) 115 1 ((px_up s 115 0 (s 7 0)) 7 1)) 115 2 ((px_up (px_up s 115 0 (s 7 0)) 115 1 ((px_up s 115 0 (s 7 0)) 7 1)) 7 2)) 115 3 ((px_up (px_up (px_up s 115 0 (s 7 0)) 115 1 ((px_up s 115 0 (s 7 0)) 7 1)) 115 2 ((px_up (px_up s 115 0 (s 7 0)) 115 1 ((px_up s 115 0 (s 7 0)) 7 1)) 7 2)) 7 3)) 7 4)) 115 5 ((px_up (px_up (px_up (px_up (px_up s 115 0 (s 7 0)) 115 1 ((px_up s 115 0 (s 7 0)) 7 1)) 115 2 ((px_up (px_up s 115 0 (s 7 0)) 115 1 ((px_up s 115 0 (s 7 0)) 7 1)) 7 2)) 115 3 ((px_up (px_up (px_up s 115 0 (s 7 0)) 115 1 ((px_up s 115 0 (s 7 0)) 7 1)) 115 2 ((px_up (px_up s 115 0 (s 7 0)) 115 1 ((px_up s 115 0 (s 7 0)) 7 1)) 7 2)) 7 3)) 115 4 ((px_up (px_up (px_up (px_up s 115 0 (s 7 0)) 115 1 ((px_up s 115 0 (s 7 0)) 7 1)) 115 2 ((px_up (px_up s 115 0 (s 7 0)) 115 1 ((px_up s 115 0 (s 7 0)) 7 1)) 7 2)) 115 3 ((px_up (px_up (px_up s 115 0 (s 7 0)) 115 1 ((px_up s 115 0 (s 7 0)) 7 1)) 115 2 ((px_up (px_up s 115 0 (s 7 0)) 115 1 ((px_up s 115 0 (s 7 0)) 7 1)) 7 2)) 7 3)) 7 4)) 7 5)) 7 6) = 1
  case neg => rw [if_neg hc1] at h; cases h
  rw [if_pos hc1] at h
  refine px_D_putz (k := 110) rfl rfl rfl rfl hc1 ?_
  refine px_D_st 36 (ip1 := 64) (ls1 := [(0, .inr (.inr 115)), (1, .inr (.inr 7))]) (st1 := []) (h1 := (px_G1, px_cp (px_cp (px_cp (px_cp (px_up (px_up (px_up (px_up (px_up (px_up (px_up (px_up s 115 0 (s 7 0)) 115 1 ((px_up s 115 0 (s 7 0)) 7 1)) 115 2 ((px_up (px_up s 115 0 (s 7 0)) 115 1 ((px_up s 115 0 (s 7 0)) 7 1)) 7 2)) 115 3 ((px_up (px_up (px_up s 115 0 (s 7 0)) 115 1 ((px_up s 115 0 (s 7 0)) 7 1)) 115 2 ((px_up (px_up s 115 0 (s 7 0)) 115 1 ((px_up s 115 0 (s 7 0)) 7 1)) 7 2)) 7 3)) 115 4 ((px_up (px_up (px_up (px_up s 115 0 (s 7 0)) 115 1 ((px_up s 115 0 (s 7 0)) 7 1)) 115 2 ((px_up (px_up s 115 0 (s 7 0)) 115 1 ((px_up s 115 0 (s 7 0)) 7 1)) 7 2)) 115 3 ((px_up (px_up (px_up s 115 0 (s 7 0)) 115 1 ((px_up s 115 0 (s 7 0)) 7 1)) 115 2 ((px_up (px_up s 115 0 (s 7 0)) 115 1 ((px_up s 115 0 (s 7 0)) 7 1)) 7 2)) 7 3)) 7 4)) 115 5 ((px_up (px_up (px_up (px_up (px_up s 115 0 (s 7 0)) 115 1 ((px_up s 115 0 (s 7 0)) 7 1)) 115 2 ((px_up (px_up s 115 0 (s 7 0)) 115 1 ((px_up s 115 0 (s 7 0)) 7 1)) 7 2)) 115 3 ((px_up (px_up (px_up s 115 0 (s 7 0)) 115 1 ((px_up s 115 0 (s 7 0)) 7 1)) 115 2 ((px_up (px_up s 115 0 (s 7 0)) 115 1 ((px_up s 115 0 (s 7 0)) 7 1)) 7 2)) 7 3)) 115 4 ((px_up (px_up (px_up (px_up s 115 0 (s 7 0)) 115 1 ((px_up s 115 0 (s 7 0)) 7 1)) 115 2 ((px_up (px_up s 115 0 (s 7 0)) 115 1 ((px_up s 115 0 (s 7 0)) 7 1)) 7 2)) 115 3 ((px_up (px_up (px_up s 115 0 (s 7 0)) 115 1 ((px_up s 115 0 (s 7 0)) 7 1)) 115 2 ((px_up (px_up s 115 0 (s 7 0)) 115 1 ((px_up s 115 0 (s 7 0)) 7 1)) 7 2)) 7 3)) 7 4)) 7 5)) 115 6 ((px_up (px_up (px_up (px_up (px_up (px_up s 115 0 (s 7 0)) 115 1 ((px_up s 115 0 (s 7 0)) 7 1)) 115 2 ((px_up (px_up s 115 0 (s 7 0)) 115 1 ((px_up s 115 0 (s 7 0)) 7 1)) 7 2)) 115 3 ((px_up (px_up (px_up s 115 0 (s 7 0)) 115 1 ((px_up s 115 0 (s 7 0)) 7 1)) 115 2 ((px_up (px_up s 115 0 (s 7 0)) 115 1 ((px_up s 115 0 (s 7 0)) 7 1)) 7 2)) 7 3)) 115 4 ((px_up (px_up (px_up (px_up s 115 0 (s 7 0)) 115 1 ((px_up s 115 0 (s 7 0)) 7 1)) 115 2 ((px_up (px_up s 115 0 (s 7 0)) 115 1 ((px_up s 115 0 (s 7 0)) 7 1)) 7 2)) 115 3 ((px_up (px_up (px_up s 115 0 (s 7 0)) 115 1 ((px_up s 115 0 (s 7 0)) 7 1)) 115 2 ((px_up (px_up s 115 0 (s 7 0)) 115 1 ((px_up s 115 0 (s 7 0)) 7 1)) 7 2)) 7 3)) 7 4)) 115 5 ((px_up (px_up (px_up (px_up (px_up s 115 0 (s 7 0)) 115 1 ((px_up s 115 0 (s 7 0)) 7 1)) 115 2 ((px_up (px_up s 115 0 (s 7 0)) 115 1 ((px_up s 115 0 (s 7 0)) 7 1)) 7 2)) 115 3 ((px_up (px_up (px_up s 115 0 (s 7 0)) 115 1 ((px_up s 115 0 (s 7 0)) 7 1)) 115 2 ((px_up (px_up s 115 0 (s 7 0)) 115 1 ((px_up s 115 0 (s 7 0)) 7 1)) 7 2)) 7 3)) 115 4 ((px_up (px_up (px_up (px_up s 115 0 (s 7 0)) 115 1 ((px_up s 115 0 (s 7 0)) 7 1)) 115 2 ((px_up (px_up s 115 0 (s 7 0)) 115 1 ((px_up s 115 0 (s 7 0)) 7 1)) 7 2)) 115 3 ((px_up (px_up (px_up s 115 0 (s 7 0)) 115 1 ((px_up s 115 0 (s 7 0)) 7 1)) 115 2 ((px_up (px_up s 115 0 (s 7 0)) 115 1 ((px_up s 115 0 (s 7 0)) 7 1)) 7 2)) 7 3)) 7 4)) 7 5)) 7 6)) 115 7 ((px_up (px_up (px_up (px_up (px_up (px_up (px_up s 115 0 (s 7 0)) 115 1 ((px_up s 115 0 (s 7 0)) 7 1)) 115 2 ((px_up (px_up s 115 0 (s 7 0)) 115 1 ((px_up s 115 0 (s 7 0)) 7 1)) 7 2)) 115 3 ((px_up (px_up (px_up s 115 0 (s 7 0)) 115 1 ((px_up s 115 0 (s 7 0)) 7 1)) 115 2 ((px_up (px_up s 115 0 (s 7 0)) 115 1 ((px_up s 115 0 (s 7 0)) 7 1)) 7 2)) 7 3)) 115 4 ((px_up (px_up (px_up (px_up s 115 0 (s 7 0)) 115 1 ((px_up s 115 0 (s 7 0)) 7 1)) 115 2 ((px_up (px_up s 115 0 (s 7 0)) 115 1 ((px_up s 115 0 (s 7 0)) 7 1)) 7 2)) 115 3 ((px_up (px_up (px_up s 115 0 (s 7 0)) 115 1 ((px_up s 115 0 (s 7 0)) 7 1)) 115 2 ((px_up (px_up s 115 0 (s 7 0)) 115 1 ((px_up s 115 0 (s 7 0)) 7 1)) 7 2)) 7 3)) 7 4)) 115 5 ((px_up (px_up (px_up (px_up (px_up s 115 0 (s 7 0)) 115 1 ((px_up s 115 0 (s 7 0)) 7 1)) 115 2 ((px_up (px_up s 115 0 (s 7 0)) 115 1 ((px_up s 115 0 (s 7 0)) 7 1)) 7 2)) 115 3 ((px_up (px_up (px_up s 115 0 (s 7 0)) 115 1 ((px_up s 115 0 (s 7 0)) 7 1)) 115 2 ((px_up (px_up s 115 0 (s 7 0)) 115 1 ((px_up s 115 0 (s 7 0)) 7 1)) 7 2)) 7 3)) 115 4 ((px_up (px_up (px_up (px_up s 115 0 (s 7 0)) 115 1 ((px_up s 115 0 (s 7 0)) 7 1)) 115 2 ((px_up (px_up s 115 0 (s 7 0)) 115 1 ((px_up s 115 0 (s 7 0)) 7 1)) 7 2)) 115 3 ((px_up (px_up (px_up s 115 0 (s 7 0)) 115 1 ((px_up s 115 0 (s 7 0)) 7 1)) 115 2 ((px_up (px_up s 115 0 (s 7 0)) 115 1 ((px_up s 115 0 (s 7 0)) 7 1)) 7 2)) 7 3)) 7 4)) 7 5)) 115 6 ((px_up (px_up (px_up (px_up (px_up (px_up s 115 0 (s 7 0)) 115 1 ((px_up s 115 0 (s 7 0)) 7 1)) 115 2 ((px_up (px_up s 115 0 (s 7 0)) 115 1 ((px_up s 115 0 (s 7 0)) 7 1)) 7 2)) 115 3 ((px_up (px_up (px_up s 115 0 (s 7 0)) 115 1 ((px_up s 115 0 (s 7 0)) 7 1)) 115 2 ((px_up (px_up s 115 0 (s 7 0)) 115 1 ((px_up s 115 0 (s 7 0)) 7 1)) 7 2)) 7 3)) 115 4 ((px_up (px_up (px_up (px_up s 115 0 (s 7 0)) 115 1 ((px_up s 115 0 (s 7 0)) 7 1)) 115 2 ((px_up (px_up s 115 0 (s 7 0)) 115 1 ((px_up s 115 0 (s 7 0)) 7 1)) 7 2)) 115 3 ((px_up (px_up (px_up s 115 0 (s 7 0)) 115 1 ((px_up s 115 0 (s 7 0)) 7 1)) 115 2 ((px_up (px_up s 115 0 (s 7 0)) 115 1 ((px_up s 115 0 (s 7 0)) 7 1)) 7 2)) 7 3)) 7 4)) 115 5 ((px_up (px_up (px_up (px_up (px_up s 115 0 (s 7 0)) 115 1 ((px_up s 115 0 (s 7 0)) 7 1)) 115 2 ((px_up (px_up s 115 0 (s 7 0)) 115 1 ((px_up s 115 0 (s 7 0)) 7 1)) 7 2)) 115 3 ((px_up (px_up (px_up s 115 0 (s 7 0)) 115 1 ((px_up s 115 0 (s 7 0)) 7 1)) 115 2 ((px_up (px_up s 115 0 (s 7 0)) 115 1 ((px_up s 115 0 (s 7 0)) 7 1)) 7 2)) 7 3)) 115 4 ((px_up (px_up (px_up (px_up s 115 0 (s 7 0)) 115 1 ((px_up s 115 0 (s 7 0)) 7 1)) 115 2 ((px_up (px_up s 115 0 (s 7 0)) 115 1 ((px_up s 115 0 (s 7 0)) 7 1)) 7 2)) 115 3 ((px_up (px_up (px_up s 115 0 (s 7 0)) 115 1 ((px_up s 115 0 (s 7 0)) 7 1)) 115 2 ((px_up (px_up s 115 0 (s 7 0)) 115 1 ((px_up s 115 0 (s 7 0)) 7 1)) 7 2)) 7 3)) 7 4)) 7 5)) 7 6)) 7 7)) 8 116 0 0 8) 9 117 0 0 8) 10 118 0 0 8) 11 119 0 0 8)) rfl ?_
  cases h
  exact px_D_vret rfl ⟨rfl, rfl⟩
