def l_M_readSum_6  : Nat → px_Z → Option (Int × px_Z)
  | 0, _ => none
  | n + 1, s => if (f_M_isSign s 43) = (0) then (if (f_M_isSign s 45) = (0) then some (0, s) else (if (s 150 17) = (43) then (f_M_reads s ).bind (fun q19 => (f_M_readProduct q19 ).bind (fun q20 => if (q20.1) = ((-1)) then some (((-1), q20.2)) else (f_M_emits q20.2 2 0).bind (fun q22 => l_M_readSum_6  n q22 ))) else (f_M_reads s ).bind (fun q15 => (f_M_readProduct q15 ).bind (fun q16 => if (q16.1) = ((-1)) then some (((-1), q16.2)) else (f_M_emits q16.2 3 0).bind (fun q18 => l_M_readSum_6  n q18 ))))) else (if (s 150 17) = (43) then (f_M_reads s ).bind (fun q9 => (f_M_readProduct q9 ).bind (fun q10 => if (q10.1) = ((-1)) then some (((-1), q10.2)) else (f_M_emits q10.2 2 0).bind (fun q12 => l_M_readSum_6  n q12 ))) else (f_M_reads s ).bind (fun q5 => (f_M_readProduct q5 ).bind (fun q6 => if (q6.1) = ((-1)) then some (((-1), q6.2)) else (f_M_emits q6.2 3 0).bind (fun q8 => l_M_readSum_6  n q8 ))))
set_option maxHeartbeats 4000000 in
set_option maxRecDepth 100000 in
theorem cl_M_readSum_6 {sc : List Int} {d : Nat}  : ∀ (n : Nat) (s : px_Z) (out : Int × px_Z), l_M_readSum_6  n s  = some out → px_D sc (d + 5) 182 6 [(0, .inr (.inr 150))] [] (px_G1, s) (px_Qi out) := by
  intro n
  induction n with
  | zero => intro s out h; cases h
  | succ n ih =>
    intro s out h
    rw [l_M_readSum_6] at h
    refine px_D_st 2 (ip1 := 8) (ls1 := [(0, .inr (.inr 150))]) (st1 := [.inl (43), .inr (.inr 150)]) (h1 := (px_G1, s)) rfl ?_
    refine px_D_call (as := [.inr (.inr 150), .inl (43)]) (rest := []) rfl rfl rfl rfl ?_
    refine px_D_mono (c_M_isSign (d := d + 4) rfl) ?_
    rintro _ _ ⟨rfl, rfl⟩
    show px_D sc (d + 5) 182 9 [(0, .inr (.inr 150))] [.inl (f_M_isSign s 43)] (px_G1, s) _
    refine px_D_ifc rfl (fun hc => ?_) (fun hc => ?_)
    · have hc3 : ¬ ((f_M_isSign s 43) = (0)) := of_decide_eq_true hc
      rw [if_neg hc3] at h
      refine px_D_st 3 (ip1 := 17) (ls1 := [(0, .inr (.inr 150))]) (st1 := [.inl (43), .inl (s 150 17)]) (h1 := (px_G1, s)) rfl ?_
      refine px_D_icmp rfl (fun hc => ?_) (fun hc => ?_)
      · have hc4 : ¬ ((s 150 17) = (43)) := of_decide_eq_true hc
        rw [if_neg hc4] at h
        refine px_D_st 3 (ip1 := 23) (ls1 := [(1, .inl (3)), (0, .inr (.inr 150))]) (st1 := [.inr (.inr 150)]) (h1 := (px_G1, s)) rfl ?_
        refine px_D_call (as := [.inr (.inr 150)]) (rest := []) rfl rfl rfl rfl ?_
        obtain ⟨q5, hq5, h⟩ := Option.bind_eq_some_iff.mp h
        refine px_D_mono (c_M_reads (d := d + 2) hq5) ?_
        rintro _ _ ⟨rfl, rfl⟩
        show px_D sc (d + 5) 182 24 [(1, .inl (3)), (0, .inr (.inr 150))] [] (px_G1, q5) _
        refine px_D_st 1 (ip1 := 25) (ls1 := [(1, .inl (3)), (0, .inr (.inr 150))]) (st1 := [.inr (.inr 150)]) (h1 := (px_G1, q5)) rfl ?_
        refine px_D_call (as := [.inr (.inr 150)]) (rest := []) rfl rfl rfl rfl ?_
        obtain ⟨q6, hq6, h⟩ := Option.bind_eq_some_iff.mp h
        refine px_D_mono (c_M_readProduct (d := d + 0) hq6) ?_
        rintro _ _ ⟨rfl, rfl⟩
        show px_D sc (d + 5) 182 26 [(1, .inl (3)), (0, .inr (.inr 150))] [.inl (q6.1)] (px_G1, q6.2) _
        refine px_D_st 1 (ip1 := 27) (ls1 := [(1, .inl (3)), (0, .inr (.inr 150))]) (st1 := [.inl ((-1)), .inl (q6.1)]) (h1 := (px_G1, q6.2)) rfl ?_
        refine px_D_icmp rfl (fun hc => ?_) (fun hc => ?_)
        · have hc7 : ¬ ((q6.1) = ((-1))) := of_decide_eq_true hc
          rw [if_neg hc7] at h
          refine px_D_st 3 (ip1 := 33) (ls1 := [(1, .inl (3)), (0, .inr (.inr 150))]) (st1 := [.inl (0), .inl (3), .inr (.inr 150)]) (h1 := (px_G1, q6.2)) rfl ?_
          refine px_D_call (as := [.inr (.inr 150), .inl (3), .inl (0)]) (rest := []) rfl rfl rfl rfl ?_
          obtain ⟨q8, hq8, h⟩ := Option.bind_eq_some_iff.mp h
          refine px_D_mono (c_M_emits (d := d + 4) hq8) ?_
          rintro _ _ ⟨rfl, rfl⟩
          show px_D sc (d + 5) 182 34 [(1, .inl (3)), (0, .inr (.inr 150))] [] (px_G1, q8) _
          refine px_D_st 1 (ip1 := 6) (ls1 := [(1, .inl (3)), (0, .inr (.inr 150))]) (st1 := []) (h1 := (px_G1, q8)) rfl ?_
          refine px_D_ls [(0, .inr (.inr 150))] rfl rfl (List.forall_mem_cons.mpr ⟨rfl, fun _ h => absurd h List.not_mem_nil⟩) ?_
          exact ih _ _ h
        · have hc7 : (q6.1) = ((-1)) := Decidable.of_not_not (of_decide_eq_false hc)
          rw [if_pos hc7] at h
          refine px_D_st 1 (ip1 := 29) (ls1 := [(1, .inl (3)), (0, .inr (.inr 150))]) (st1 := [.inl ((-1))]) (h1 := (px_G1, q6.2)) rfl ?_
          cases h
          exact px_D_iret rfl rfl ⟨rfl, rfl⟩
      · have hc4 : (s 150 17) = (43) := Decidable.of_not_not (of_decide_eq_false hc)
        rw [if_pos hc4] at h
        refine px_D_st 4 (ip1 := 23) (ls1 := [(1, .inl (2)), (0, .inr (.inr 150))]) (st1 := [.inr (.inr 150)]) (h1 := (px_G1, s)) rfl ?_
        refine px_D_call (as := [.inr (.inr 150)]) (rest := []) rfl rfl rfl rfl ?_
        obtain ⟨q9, hq9, h⟩ := Option.bind_eq_some_iff.mp h
        refine px_D_mono (c_M_reads (d := d + 2) hq9) ?_
        rintro _ _ ⟨rfl, rfl⟩
        show px_D sc (d + 5) 182 24 [(1, .inl (2)), (0, .inr (.inr 150))] [] (px_G1, q9) _
        refine px_D_st 1 (ip1 := 25) (ls1 := [(1, .inl (2)), (0, .inr (.inr 150))]) (st1 := [.inr (.inr 150)]) (h1 := (px_G1, q9)) rfl ?_
        refine px_D_call (as := [.inr (.inr 150)]) (rest := []) rfl rfl rfl rfl ?_
        obtain ⟨q10, hq10, h⟩ := Option.bind_eq_some_iff.mp h
        refine px_D_mono (c_M_readProduct (d := d + 0) hq10) ?_
        rintro _ _ ⟨rfl, rfl⟩
        show px_D sc (d + 5) 182 26 [(1, .inl (2)), (0, .inr (.inr 150))] [.inl (q10.1)] (px_G1, q10.2) _
        refine px_D_st 1 (ip1 := 27) (ls1 := [(1, .inl (2)), (0, .inr (.inr 150))]) (st1 := [.inl ((-1)), .inl (q10.1)]) (h1 := (px_G1, q10.2)) rfl ?_
        refine px_D_icmp rfl (fun hc => ?_) (fun hc => ?_)
        · have hc11 : ¬ ((q10.1) = ((-1))) := of_decide_eq_true hc
          rw [if_neg hc11] at h
          refine px_D_st 3 (ip1 := 33) (ls1 := [(1, .inl (2)), (0, .inr (.inr 150))]) (st1 := [.inl (0), .inl (2), .inr (.inr 150)]) (h1 := (px_G1, q10.2)) rfl ?_
          refine px_D_call (as := [.inr (.inr 150), .inl (2), .inl (0)]) (rest := []) rfl rfl rfl rfl ?_
          obtain ⟨q12, hq12, h⟩ := Option.bind_eq_some_iff.mp h
          refine px_D_mono (c_M_emits (d := d + 4) hq12) ?_
          rintro _ _ ⟨rfl, rfl⟩
          show px_D sc (d + 5) 182 34 [(1, .inl (2)), (0, .inr (.inr 150))] [] (px_G1, q12) _
          refine px_D_st 1 (ip1 := 6) (ls1 := [(1, .inl (2)), (0, .inr (.inr 150))]) (st1 := []) (h1 := (px_G1, q12)) rfl ?_
          refine px_D_ls [(0, .inr (.inr 150))] rfl rfl (List.forall_mem_cons.mpr ⟨rfl, fun _ h => absurd h List.not_mem_nil⟩) ?_
          exact ih _ _ h
        · have hc11 : (q10.1) = ((-1)) := Decidable.of_not_not (of_decide_eq_false hc)
          rw [if_pos hc11] at h
          refine px_D_st 1 (ip1 := 29) (ls1 := [(1, .inl (2)), (0, .inr (.inr 150))]) (st1 := [.inl ((-1))]) (h1 := (px_G1, q10.2)) rfl ?_
          cases h
          exact px_D_iret rfl rfl ⟨rfl, rfl⟩
    · have hc3 : (f_M_isSign s 43) = (0) := Decidable.of_not_not (of_decide_eq_false hc)
      rw [if_pos hc3] at h
      refine px_D_st 2 (ip1 := 12) (ls1 := [(0, .inr (.inr 150))]) (st1 := [.inl (45), .inr (.inr 150)]) (h1 := (px_G1, s)) rfl ?_
      refine px_D_call (as := [.inr (.inr 150), .inl (45)]) (rest := []) rfl rfl rfl rfl ?_
      refine px_D_mono (c_M_isSign (d := d + 4) rfl) ?_
      rintro _ _ ⟨rfl, rfl⟩
      show px_D sc (d + 5) 182 13 [(0, .inr (.inr 150))] [.inl (f_M_isSign s 45)] (px_G1, s) _
      refine px_D_ifc rfl (fun hc => ?_) (fun hc => ?_)
      · have hc13 : (f_M_isSign s 45) = (0) := of_decide_eq_true hc
        rw [if_pos hc13] at h
        refine px_D_st 1 (ip1 := 36) (ls1 := [(0, .inr (.inr 150))]) (st1 := [.inl (0)]) (h1 := (px_G1, s)) rfl ?_
        cases h
        exact px_D_iret rfl rfl ⟨rfl, rfl⟩
      · have hc13 : ¬ ((f_M_isSign s 45) = (0)) := of_decide_eq_false hc
        rw [if_neg hc13] at h
        refine px_D_st 3 (ip1 := 17) (ls1 := [(0, .inr (.inr 150))]) (st1 := [.inl (43), .inl (s 150 17)]) (h1 := (px_G1, s)) rfl ?_
        refine px_D_icmp rfl (fun hc => ?_) (fun hc => ?_)
        · have hc14 : ¬ ((s 150 17) = (43)) := of_decide_eq_true hc
          rw [if_neg hc14] at h
          refine px_D_st 3 (ip1 := 23) (ls1 := [(1, .inl (3)), (0, .inr (.inr 150))]) (st1 := [.inr (.inr 150)]) (h1 := (px_G1, s)) rfl ?_
          refine px_D_call (as := [.inr (.inr 150)]) (rest := []) rfl rfl rfl rfl ?_
          obtain ⟨q15, hq15, h⟩ := Option.bind_eq_some_iff.mp h
          refine px_D_mono (c_M_reads (d := d + 2) hq15) ?_
          rintro _ _ ⟨rfl, rfl⟩
          show px_D sc (d + 5) 182 24 [(1, .inl (3)), (0, .inr (.inr 150))] [] (px_G1, q15) _
          refine px_D_st 1 (ip1 := 25) (ls1 := [(1, .inl (3)), (0, .inr (.inr 150))]) (st1 := [.inr (.inr 150)]) (h1 := (px_G1, q15)) rfl ?_
          refine px_D_call (as := [.inr (.inr 150)]) (rest := []) rfl rfl rfl rfl ?_
          obtain ⟨q16, hq16, h⟩ := Option.bind_eq_some_iff.mp h
          refine px_D_mono (c_M_readProduct (d := d + 0) hq16) ?_
          rintro _ _ ⟨rfl, rfl⟩
          show px_D sc (d + 5) 182 26 [(1, .inl (3)), (0, .inr (.inr 150))] [.inl (q16.1)] (px_G1, q16.2) _
          refine px_D_st 1 (ip1 := 27) (ls1 := [(1, .inl (3)), (0, .inr (.inr 150))]) (st1 := [.inl ((-1)), .inl (q16.1)]) (h1 := (px_G1, q16.2)) rfl ?_
          refine px_D_icmp rfl (fun hc => ?_) (fun hc => ?_)
          · have hc17 : ¬ ((q16.1) = ((-1))) := of_decide_eq_true hc
            rw [if_neg hc17] at h
            refine px_D_st 3 (ip1 := 33) (ls1 := [(1, .inl (3)), (0, .inr (.inr 150))]) (st1 := [.inl (0), .inl (3), .inr (.inr 150)]) (h1 := (px_G1, q16.2)) rfl ?_
            refine px_D_call (as := [.inr (.inr 150), .inl (3), .inl (0)]) (rest := []) rfl rfl rfl rfl ?_
            obtain ⟨q18, hq18, h⟩ := Option.bind_eq_some_iff.mp h
            refine px_D_mono (c_M_emits (d := d + 4) hq18) ?_
            rintro _ _ ⟨rfl, rfl⟩
            show px_D sc (d + 5) 182 34 [(1, .inl (3)), (0, .inr (.inr 150))] [] (px_G1, q18) _
            refine px_D_st 1 (ip1 := 6) (ls1 := [(1, .inl (3)), (0, .inr (.inr 150))]) (st1 := []) (h1 := (px_G1, q18)) rfl ?_
            refine px_D_ls [(0, .inr (.inr 150))] rfl rfl (List.forall_mem_cons.mpr ⟨rfl, fun _ h => absurd h List.not_mem_nil⟩) ?_
            exact ih _ _ h
          · have hc17 : (q16.1) = ((-1)) := Decidable.of_not_not (of_decide_eq_false hc)
            rw [if_pos hc17] at h
            refine px_D_st 1 (ip1 := 29) (ls1 := [(1, .inl (3)), (0, .inr (.inr 150))]) (st1 := [.inl ((-1))]) (h1 := (px_G1, q16.2)) rfl ?_
            cases h
            exact px_D_iret rfl rfl ⟨rfl, rfl⟩
        · have hc14 : (s 150 17) = (43) := Decidable.of_not_not (of_decide_eq_false hc)
          rw [if_pos hc14] at h
          refine px_D_st 4 (ip1 := 23) (ls1 := [(1, .inl (2)), (0, .inr (.inr 150))]) (st1 := [.inr (.inr 150)]) (h1 := (px_G1, s)) rfl ?_
          refine px_D_call (as := [.inr (.inr 150)]) (rest := []) rfl rfl rfl rfl ?_
          obtain ⟨q19, hq19, h⟩ := Option.bind_eq_some_iff.mp h
          refine px_D_mono (c_M_reads (d := d + 2) hq19) ?_
          rintro _ _ ⟨rfl, rfl⟩
          show px_D sc (d + 5) 182 24 [(1, .inl (2)), (0, .inr (.inr 150))] [] (px_G1, q19) _
          refine px_D_st 1 (ip1 := 25) (ls1 := [(1, .inl (2)), (0, .inr (.inr 150))]) (st1 := [.inr (.inr 150)]) (h1 := (px_G1, q19)) rfl ?_
          refine px_D_call (as := [.inr (.inr 150)]) (rest := []) rfl rfl rfl rfl ?_
          obtain ⟨q20, hq20, h⟩ := Option.bind_eq_some_iff.mp h
          refine px_D_mono (c_M_readProduct (d := d + 0) hq20) ?_
          rintro _ _ ⟨rfl, rfl⟩
          show px_D sc (d + 5) 182 26 [(1, .inl (2)), (0, .inr (.inr 150))] [.inl (q20.1)] (px_G1, q20.2) _
          refine px_D_st 1 (ip1 := 27) (ls1 := [(1, .inl (2)), (0, .inr (.inr 150))]) (st1 := [.inl ((-1)), .inl (q20.1)]) (h1 := (px_G1, q20.2)) rfl ?_
          refine px_D_icmp rfl (fun hc => ?_) (fun hc => ?_)
          · have hc21 : ¬ ((q20.1) = ((-1))) := of_decide_eq_true hc
            rw [if_neg hc21] at h
            refine px_D_st 3 (ip1 := 33) (ls1 := [(1, .inl (2)), (0, .inr (.inr 150))]) (st1 := [.inl (0), .inl (2), .inr (.inr 150)]) (h1 := (px_G1, q20.2)) rfl ?_
            refine px_D_call (as := [.inr (.inr 150), .inl (2), .inl (0)]) (rest := []) rfl rfl rfl rfl ?_
            obtain ⟨q22, hq22, h⟩ := Option.bind_eq_some_iff.mp h
            refine px_D_mono (c_M_emits (d := d + 4) hq22) ?_
            rintro _ _ ⟨rfl, rfl⟩
            show px_D sc (d + 5) 182 34 [(1, .inl (2)), (0, .inr (.inr 150))] [] (px_G1, q22) _
            refine px_D_st 1 (ip1 := 6) (ls1 := [(1, .inl (2)), (0, .inr (.inr 150))]) (st1 := []) (h1 := (px_G1, q22)) rfl ?_
            refine px_D_ls [(0, .inr (.inr 150))] rfl rfl (List.forall_mem_cons.mpr ⟨rfl, fun _ h => absurd h List.not_mem_nil⟩) ?_
            exact ih _ _ h
          · have hc21 : (q20.1) = ((-1)) := Decidable.of_not_not (of_decide_eq_false hc)
            rw [if_pos hc21] at h
            refine px_D_st 1 (ip1 := 29) (ls1 := [(1, .inl (2)), (0, .inr (.inr 150))]) (st1 := [.inl ((-1))]) (h1 := (px_G1, q20.2)) rfl ?_
            cases h
            exact px_D_iret rfl rfl ⟨rfl, rfl⟩
def f_M_readSum (s : px_Z) : Option (Int × px_Z) := (f_M_readProduct s ).bind (fun q1 => if (q1.1) = ((-1)) then some (((-1), q1.2)) else l_M_readSum_6  px_big q1.2 )
set_option maxHeartbeats 4000000 in
set_option maxRecDepth 100000 in
theorem c_M_readSum {sc : List Int} {d : Nat} {s : px_Z} {out : Int × px_Z} (h : f_M_readSum s  = some out) : px_D sc (d + 5) 182 0 [(0, .inr (.inr 150))] [] (px_G1, s) (px_Qi out) := by
  unfold f_M_readSum at h
  refine px_D_st 1 (ip1 := 1) (ls1 := [(0, .inr (.inr 150))]) (st1 := [.inr (.inr 150)]) (h1 := (px_G1, s)) rfl ?_
  refine px_D_call (as := [.inr (.inr 150)]) (rest := []) rfl rfl rfl rfl ?_
  obtain ⟨q1, hq1, h⟩ := Option.bind_eq_some_iff.mp h
  refine px_D_mono (c_M_readProduct (d := d + 0) hq1) ?_
  rintro _ _ ⟨rfl, rfl⟩
  show px_D sc (d + 5) 182 2 [(0, .inr (.inr 150))] [.inl (q1.1)] (px_G1, q1.2) _
  refine px_D_st 1 (ip1 := 3) (ls1 := [(0, .inr (.inr 150))]) (st1 := [.inl ((-1)), .inl (q1.1)]) (h1 := (px_G1, q1.2)) rfl ?_
  refine px_D_icmp rfl (fun hc => ?_) (fun hc => ?_)
  · have hc2 : ¬ ((q1.1) = ((-1))) := of_decide_eq_true hc
    rw [if_neg hc2] at h
    refine px_D_ls [(0, .inr (.inr 150))] rfl rfl (List.forall_mem_cons.mpr ⟨rfl, fun _ h => absurd h List.not_mem_nil⟩) ?_
    refine cl_M_readSum_6  px_big _ _ h
  · have hc2 : (q1.1) = ((-1)) := Decidable.of_not_not (of_decide_eq_false hc)
    rw [if_pos hc2] at h
    refine px_D_st 1 (ip1 := 5) (ls1 := [(0, .inr (.inr 150))]) (st1 := [.inl ((-1))]) (h1 := (px_G1, q1.2)) rfl ?_
    cases h
    exact px_D_iret rfl rfl ⟨rfl, rfl⟩

def j_M_readCompared_j35 (s : px_Z) (t0 : Int) : Option (Int × px_Z) := (f_M_reads s ).bind (fun q6 => (f_M_readSum q6 ).bind (fun q7 => if (q7.1) = ((-1)) then some (((-1), q7.2)) else (f_M_emits q7.2 t0 0).bind (fun q9 => some (0, q9))))
set_option maxHeartbeats 4000000 in
set_option maxRecDepth 100000 in
theorem cj_M_readCompared_j35 {sc : List Int} {d : Nat} {s : px_Z} {t0 : Int} {out : Int × px_Z} (h : j_M_readCompared_j35 s t0 = some out) : px_D sc (d + 6) 183 35 [(0, .inr (.inr 150))] [.inl (t0)] (px_G1, s) (px_Qi out) := by
  unfold j_M_readCompared_j35 at h
  refine px_D_st 2 (ip1 := 37) (ls1 := [(1, .inl (t0)), (0, .inr (.inr 150))]) (st1 := [.inr (.inr 150)]) (h1 := (px_G1, s)) rfl ?_
  refine px_D_call (as := [.inr (.inr 150)]) (rest := []) rfl rfl rfl rfl ?_
  obtain ⟨q6, hq6, h⟩ := Option.bind_eq_some_iff.mp h
  refine px_D_mono (c_M_reads (d := d + 3) hq6) ?_
  rintro _ _ ⟨rfl, rfl⟩
  show px_D sc (d + 6) 183 38 [(1, .inl (t0)), (0, .inr (.inr 150))] [] (px_G1, q6) _
  refine px_D_st 1 (ip1 := 39) (ls1 := [(1, .inl (t0)), (0, .inr (.inr 150))]) (st1 := [.inr (.inr 150)]) (h1 := (px_G1, q6)) rfl ?_
  refine px_D_call (as := [.inr (.inr 150)]) (rest := []) rfl rfl rfl rfl ?_
  obtain ⟨q7, hq7, h⟩ := Option.bind_eq_some_iff.mp h
  refine px_D_mono (c_M_readSum (d := d + 0) hq7) ?_
  rintro _ _ ⟨rfl, rfl⟩
  show px_D sc (d + 6) 183 40 [(1, .inl (t0)), (0, .inr (.inr 150))] [.inl (q7.1)] (px_G1, q7.2) _
  refine px_D_st 1 (ip1 := 41) (ls1 := [(1, .inl (t0)), (0, .inr (.inr 150))]) (st1 := [.inl ((-1)), .inl (q7.1)]) (h1 := (px_G1, q7.2)) rfl ?_
  refine px_D_icmp rfl (fun hc => ?_) (fun hc => ?_)
  · have hc8 : ¬ ((q7.1) = ((-1))) := of_decide_eq_true hc
    rw [if_neg hc8] at h
    refine px_D_st 3 (ip1 := 47) (ls1 := [(1, .inl (t0)), (0, .inr (.inr 150))]) (st1 := [.inl (0), .inl (t0), .inr (.inr 150)]) (h1 := (px_G1, q7.2)) rfl ?_
    refine px_D_call (as := [.inr (.inr 150), .inl (t0), .inl (0)]) (rest := []) rfl rfl rfl rfl ?_
    obtain ⟨q9, hq9, h⟩ := Option.bind_eq_some_iff.mp h
    refine px_D_mono (c_M_emits (d := d + 5) hq9) ?_
    rintro _ _ ⟨rfl, rfl⟩
    show px_D sc (d + 6) 183 48 [(1, .inl (t0)), (0, .inr (.inr 150))] [] (px_G1, q9) _
    refine px_D_st 1 (ip1 := 49) (ls1 := [(1, .inl (t0)), (0, .inr (.inr 150))]) (st1 := [.inl (0)]) (h1 := (px_G1, q9)) rfl ?_
    cases h
    exact px_D_iret rfl rfl ⟨rfl, rfl⟩
  · have hc8 : (q7.1) = ((-1)) := Decidable.of_not_not (of_decide_eq_false hc)
    rw [if_pos hc8] at h
    refine px_D_st 1 (ip1 := 43) (ls1 := [(1, .inl (t0)), (0, .inr (.inr 150))]) (st1 := [.inl ((-1))]) (h1 := (px_G1, q7.2)) rfl ?_
    cases h
    exact px_D_iret rfl rfl ⟨rfl, rfl⟩
def j_M_readCompared_j22 (s : px_Z) : Option (Int × px_Z) := if (s 150 17) = (60) then j_M_readCompared_j35 s 6 else (if (s 150 17) = (61) then j_M_readCompared_j35 s 7 else j_M_readCompared_j35 s 8)
set_option maxHeartbeats 4000000 in
set_option maxRecDepth 100000 in
theorem cj_M_readCompared_j22 {sc : List Int} {d : Nat} {s : px_Z} {out : Int × px_Z} (h : j_M_readCompared_j22 s  = some out) : px_D sc (d + 6) 183 22 [(0, .inr (.inr 150))] [] (px_G1, s) (px_Qi out) := by
  unfold j_M_readCompared_j22 at h
  refine px_D_st 3 (ip1 := 25) (ls1 := [(0, .inr (.inr 150))]) (st1 := [.inl (60), .inl (s 150 17)]) (h1 := (px_G1, s)) rfl ?_
  refine px_D_icmp rfl (fun hc => ?_) (fun hc => ?_)
  · have hc4 : ¬ ((s 150 17) = (60)) := of_decide_eq_true hc
    rw [if_neg hc4] at h
    refine px_D_st 3 (ip1 := 31) (ls1 := [(0, .inr (.inr 150))]) (st1 := [.inl (61), .inl (s 150 17)]) (h1 := (px_G1, s)) rfl ?_
    refine px_D_icmp rfl (fun hc => ?_) (fun hc => ?_)
    · have hc5 : ¬ ((s 150 17) = (61)) := of_decide_eq_true hc
      rw [if_neg hc5] at h
      refine px_D_st 1 (ip1 := 35) (ls1 := [(0, .inr (.inr 150))]) (st1 := [.inl (8)]) (h1 := (px_G1, s)) rfl ?_
      refine px_D_ls [(0, .inr (.inr 150))] rfl rfl (List.forall_mem_cons.mpr ⟨rfl, fun _ h => absurd h List.not_mem_nil⟩) ?_
      exact cj_M_readCompared_j35 h
    · have hc5 : (s 150 17) = (61) := Decidable.of_not_not (of_decide_eq_false hc)
      rw [if_pos hc5] at h
      refine px_D_st 2 (ip1 := 35) (ls1 := [(0, .inr (.inr 150))]) (st1 := [.inl (7)]) (h1 := (px_G1, s)) rfl ?_
      refine px_D_ls [(0, .inr (.inr 150))] rfl rfl (List.forall_mem_cons.mpr ⟨rfl, fun _ h => absurd h List.not_mem_nil⟩) ?_
      exact cj_M_readCompared_j35 h
  · have hc4 : (s 150 17) = (60) := Decidable.of_not_not (of_decide_eq_false hc)
    rw [if_pos hc4] at h
    refine px_D_st 2 (ip1 := 35) (ls1 := [(0, .inr (.inr 150))]) (st1 := [.inl (6)]) (h1 := (px_G1, s)) rfl ?_
    refine px_D_ls [(0, .inr (.inr 150))] rfl rfl (List.forall_mem_cons.mpr ⟨rfl, fun _ h => absurd h List.not_mem_nil⟩) ?_
    exact cj_M_readCompared_j35 h
def f_M_readCompared (s : px_Z) : Option (Int × px_Z) := (f_M_readSum s ).bind (fun q1 => if (q1.1) = ((-1)) then some (((-1), q1.2)) else (if (f_M_isSign q1.2 60) = (0) then (if (f_M_isSign q1.2 61) = (0) then (if (f_M_isSign q1.2 62) = (0) then (f_M_errs q1.2 1).bind (fun q12 => some (q12.1, q12.2)) else j_M_readCompared_j22 q1.2 ) else j_M_readCompared_j22 q1.2 ) else j_M_readCompared_j22 q1.2 ))
set_option maxHeartbeats 4000000 in
set_option maxRecDepth 100000 in
theorem c_M_readCompared {sc : List Int} {d : Nat} {s : px_Z} {out : Int × px_Z} (h : f_M_readCompared s  = some out) : px_D sc (d + 6) 183 0 [(0, .inr (.inr 150))] [] (px_G1, s) (px_Qi out) := by
  unfold f_M_readCompared at h
  refine px_D_st 1 (ip1 := 1) (ls1 := [(0, .inr (.inr 150))]) (st1 := [.inr (.inr 150)]) (h1 := (px_G1, s)) rfl ?_
  refine px_D_call (as := [.inr (.inr 150)]) (rest := []) rfl rfl rfl rfl ?_
  obtain ⟨q1, hq1, h⟩ := Option.bind_eq_some_iff.mp h
  refine px_D_mono (c_M_readSum (d := d + 0) hq1) ?_
  rintro _ _ ⟨rfl, rfl⟩
  show px_D sc (d + 6) 183 2 [(0, .inr (.inr 150))] [.inl (q1.1)] (px_G1, q1.2) _
  refine px_D_st 1 (ip1 := 3) (ls1 := [(0, .inr (.inr 150))]) (st1 := [.inl ((-1)), .inl (q1.1)]) (h1 := (px_G1, q1.2)) rfl ?_
  refine px_D_icmp rfl (fun hc => ?_) (fun hc => ?_)
  · have hc2 : ¬ ((q1.1) = ((-1))) := of_decide_eq_true hc
    rw [if_neg hc2] at h
    refine px_D_st 2 (ip1 := 8) (ls1 := [(0, .inr (.inr 150))]) (st1 := [.inl (60), .inr (.inr 150)]) (h1 := (px_G1, q1.2)) rfl ?_
    refine px_D_call (as := [.inr (.inr 150), .inl (60)]) (rest := []) rfl rfl rfl rfl ?_
    refine px_D_mono (c_M_isSign (d := d + 5) rfl) ?_
    rintro _ _ ⟨rfl, rfl⟩
    show px_D sc (d + 6) 183 9 [(0, .inr (.inr 150))] [.inl (f_M_isSign q1.2 60)] (px_G1, q1.2) _
    refine px_D_ifc rfl (fun hc => ?_) (fun hc => ?_)
    · have hc3 : ¬ ((f_M_isSign q1.2 60) = (0)) := of_decide_eq_true hc
      rw [if_neg hc3] at h
      refine px_D_ls [(0, .inr (.inr 150))] rfl rfl (List.forall_mem_cons.mpr ⟨rfl, fun _ h => absurd h List.not_mem_nil⟩) ?_
      exact cj_M_readCompared_j22 h
    · have hc3 : (f_M_isSign q1.2 60) = (0) := Decidable.of_not_not (of_decide_eq_false hc)
      rw [if_pos hc3] at h
      refine px_D_st 2 (ip1 := 12) (ls1 := [(0, .inr (.inr 150))]) (st1 := [.inl (61), .inr (.inr 150)]) (h1 := (px_G1, q1.2)) rfl ?_
      refine px_D_call (as := [.inr (.inr 150), .inl (61)]) (rest := []) rfl rfl rfl rfl ?_
      refine px_D_mono (c_M_isSign (d := d + 5) rfl) ?_
      rintro _ _ ⟨rfl, rfl⟩
      show px_D sc (d + 6) 183 13 [(0, .inr (.inr 150))] [.inl (f_M_isSign q1.2 61)] (px_G1, q1.2) _
      refine px_D_ifc rfl (fun hc => ?_) (fun hc => ?_)
      · have hc10 : ¬ ((f_M_isSign q1.2 61) = (0)) := of_decide_eq_true hc
        rw [if_neg hc10] at h
        refine px_D_ls [(0, .inr (.inr 150))] rfl rfl (List.forall_mem_cons.mpr ⟨rfl, fun _ h => absurd h List.not_mem_nil⟩) ?_
        exact cj_M_readCompared_j22 h
      · have hc10 : (f_M_isSign q1.2 61) = (0) := Decidable.of_not_not (of_decide_eq_false hc)
        rw [if_pos hc10] at h
        refine px_D_st 2 (ip1 := 16) (ls1 := [(0, .inr (.inr 150))]) (st1 := [.inl (62), .inr (.inr 150)]) (h1 := (px_G1, q1.2)) rfl ?_
        refine px_D_call (as := [.inr (.inr 150), .inl (62)]) (rest := []) rfl rfl rfl rfl ?_
        refine px_D_mono (c_M_isSign (d := d + 5) rfl) ?_
        rintro _ _ ⟨rfl, rfl⟩
        show px_D sc (d + 6) 183 17 [(0, .inr (.inr 150))] [.inl (f_M_isSign q1.2 62)] (px_G1, q1.2) _
        refine px_D_ifc rfl (fun hc => ?_) (fun hc => ?_)
        · have hc11 : ¬ ((f_M_isSign q1.2 62) = (0)) := of_decide_eq_true hc
          rw [if_neg hc11] at h
          refine px_D_ls [(0, .inr (.inr 150))] rfl rfl (List.forall_mem_cons.mpr ⟨rfl, fun _ h => absurd h List.not_mem_nil⟩) ?_
          exact cj_M_readCompared_j22 h
        · have hc11 : (f_M_isSign q1.2 62) = (0) := Decidable.of_not_not (of_decide_eq_false hc)
          rw [if_pos hc11] at h
          refine px_D_st 2 (ip1 := 20) (ls1 := [(0, .inr (.inr 150))]) (st1 := [.inl (1), .inr (.inr 150)]) (h1 := (px_G1, q1.2)) rfl ?_
          refine px_D_call (as := [.inr (.inr 150), .inl (1)]) (rest := []) rfl rfl rfl rfl ?_
          obtain ⟨q12, hq12, h⟩ := Option.bind_eq_some_iff.mp h
          refine px_D_mono (c_M_errs (d := d + 5) hq12) ?_
          rintro _ _ ⟨rfl, rfl⟩
          show px_D sc (d + 6) 183 21 [(0, .inr (.inr 150))] [.inl (q12.1)] (px_G1, q12.2) _
          cases h
          exact px_D_iret rfl rfl ⟨rfl, rfl⟩
  · have hc2 : (q1.1) = ((-1)) := Decidable.of_not_not (of_decide_eq_false hc)
    rw [if_pos hc2] at h
    refine px_D_st 1 (ip1 := 5) (ls1 := [(0, .inr (.inr 150))]) (st1 := [.inl ((-1))]) (h1 := (px_G1, q1.2)) rfl ?_
    cases h
    exact px_D_iret rfl rfl ⟨rfl, rfl⟩

def f_M_waits (s : px_Z) (x1 : Int) : Option (px_Z) := if 0 ≤ (s 150 30) ∧ (s 150 30) < 40 then some (px_up (px_up s 165 (s 150 30).toNat x1) 150 30 (px_wr (((px_up s 165 (s 150 30).toNat x1) 150 30) + 1))) else none
set_option maxHeartbeats 4000000 in
set_option maxRecDepth 100000 in
theorem c_M_waits {sc : List Int} {d : Nat} {s : px_Z} {x1 : Int} {out : px_Z} (h : f_M_waits s x1 = some out) : px_D sc (d + 0) 184 0 [(0, .inr (.inr 150)), (1, .inl (x1))] [] (px_G1, s) (px_Qv out) := by
  unfold f_M_waits at h
  refine px_D_st 5 (ip1 := 5) (ls1 := [(0, .inr (.inr 150)), (1, .inl (x1))]) (st1 := [.inl (x1), .inl (s 150 30), .inr (.inr 165)]) (h1 := (px_G1, s)) rfl ?_
  by_cases hc1 : 0 ≤ (s 150 30) ∧ (s 150 30) < 40
  case neg => rw [if_neg hc1] at h; cases h
  rw [if_pos hc1] at h
  refine px_D_iast (k := 160) (n := 40) rfl rfl hc1 ?_
  refine px_D_st 6 (ip1 := 12) (ls1 := [(0, .inr (.inr 150)), (1, .inl (x1))]) (st1 := []) (h1 := (px_G1, px_up (px_up s 165 (s 150 30).toNat x1) 150 30 (px_wr (((px_up s 165 (s 150 30).toNat x1) 150 30) + 1)))) rfl ?_
  cases h
  exact px_D_vret rfl ⟨rfl, rfl⟩

def l_M_settles_0  : Nat → px_Z → Int → Option (px_Z)
  | 0, _, _ => none
  | n + 1, s, x1 => if (s 150 30) ≤ (0) then some s else (if 0 ≤ (px_wr ((s 150 30) - 1)) ∧ (px_wr ((s 150 30) - 1)) < 40 then if (s 165 (px_wr ((s 150 30) - 1)).toNat) = (x1) then (f_M_emits (px_up s 150 30 (px_wr ((s 150 30) - 1))) x1 0).bind (fun q4 => if (x1) = (9) then l_M_settles_0  n (px_up q4 150 28 (px_wr ((q4 150 28) - 1))) x1 else l_M_settles_0  n q4 x1) else some s else none)
set_option maxHeartbeats 4000000 in
set_option maxRecDepth 100000 in
theorem cl_M_settles_0 {sc : List Int} {d : Nat}  : ∀ (n : Nat) (s : px_Z) (x1 : Int) (out : px_Z), l_M_settles_0  n s x1 = some out → px_D sc (d + 1) 185 0 [(0, .inr (.inr 150)), (1, .inl (x1))] [] (px_G1, s) (px_Qv out) := by
  intro n
  induction n with
  | zero => intro s x1 out h; cases h
  | succ n ih =>
    intro s x1 out h
    rw [l_M_settles_0] at h
    refine px_D_st 2 (ip1 := 2) (ls1 := [(0, .inr (.inr 150)), (1, .inl (x1))]) (st1 := [.inl (s 150 30)]) (h1 := (px_G1, s)) rfl ?_
    refine px_D_ifc rfl (fun hc => ?_) (fun hc => ?_)
    · have hc1 : (s 150 30) ≤ (0) := of_decide_eq_true hc
      rw [if_pos hc1] at h
      cases h
      exact px_D_vret rfl ⟨rfl, rfl⟩
    · have hc1 : ¬ ((s 150 30) ≤ (0)) := of_decide_eq_false hc
      rw [if_neg hc1] at h
      refine px_D_st 6 (ip1 := 9) (ls1 := [(0, .inr (.inr 150)), (1, .inl (x1))]) (st1 := [.inl (px_wr ((s 150 30) - 1)), .inr (.inr 165)]) (h1 := (px_G1, s)) rfl ?_
      by_cases hc2 : 0 ≤ (px_wr ((s 150 30) - 1)) ∧ (px_wr ((s 150 30) - 1)) < 40
      case neg => rw [if_neg hc2] at h; cases h
      rw [if_pos hc2] at h
      refine px_D_iald (k := 160) (n := 40) rfl rfl hc2 ?_
      refine px_D_st 1 (ip1 := 11) (ls1 := [(0, .inr (.inr 150)), (1, .inl (x1))]) (st1 := [.inl (x1), .inl (s 165 (px_wr ((s 150 30) - 1)).toNat)]) (h1 := (px_G1, s)) rfl ?_
      refine px_D_icmp rfl (fun hc => ?_) (fun hc => ?_)
      · have hc3 : ¬ ((s 165 (px_wr ((s 150 30) - 1)).toNat) = (x1)) := of_decide_eq_true hc
        rw [if_neg hc3] at h
        cases h
        exact px_D_vret rfl ⟨rfl, rfl⟩
      · have hc3 : (s 165 (px_wr ((s 150 30) - 1)).toNat) = (x1) := Decidable.of_not_not (of_decide_eq_false hc)
        rw [if_pos hc3] at h
        refine px_D_st 9 (ip1 := 21) (ls1 := [(0, .inr (.inr 150)), (1, .inl (x1))]) (st1 := [.inl (0), .inl (x1), .inr (.inr 150)]) (h1 := (px_G1, px_up s 150 30 (px_wr ((s 150 30) - 1)))) rfl ?_
        refine px_D_call (as := [.inr (.inr 150), .inl (x1), .inl (0)]) (rest := []) rfl rfl rfl rfl ?_
        obtain ⟨q4, hq4, h⟩ := Option.bind_eq_some_iff.mp h
        refine px_D_mono (c_M_emits (d := d + 0) hq4) ?_
        rintro _ _ ⟨rfl, rfl⟩
        show px_D sc (d + 1) 185 22 [(0, .inr (.inr 150)), (1, .inl (x1))] [] (px_G1, q4) _
        refine px_D_st 2 (ip1 := 24) (ls1 := [(0, .inr (.inr 150)), (1, .inl (x1))]) (st1 := [.inl (9), .inl (x1)]) (h1 := (px_G1, q4)) rfl ?_
        refine px_D_icmp rfl (fun hc => ?_) (fun hc => ?_)
        · have hc5 : ¬ ((x1) = (9)) := of_decide_eq_true hc
          rw [if_neg hc5] at h
          refine px_D_ls [(0, .inr (.inr 150)), (1, .inl (x1))] rfl rfl (List.forall_mem_cons.mpr ⟨rfl, List.forall_mem_cons.mpr ⟨rfl, fun _ h => absurd h List.not_mem_nil⟩⟩) ?_
          exact ih _ _ _ h
        · have hc5 : (x1) = (9) := Decidable.of_not_not (of_decide_eq_false hc)
          rw [if_pos hc5] at h
          refine px_D_st 7 (ip1 := 0) (ls1 := [(0, .inr (.inr 150)), (1, .inl (x1))]) (st1 := []) (h1 := (px_G1, px_up q4 150 28 (px_wr ((q4 150 28) - 1)))) rfl ?_
          refine px_D_ls [(0, .inr (.inr 150)), (1, .inl (x1))] rfl rfl (List.forall_mem_cons.mpr ⟨rfl, List.forall_mem_cons.mpr ⟨rfl, fun _ h => absurd h List.not_mem_nil⟩⟩) ?_
          exact ih _ _ _ h
def f_M_settles (s : px_Z) (x1 : Int) : Option (px_Z) := l_M_settles_0  px_big s x1
set_option maxHeartbeats 4000000 in
set_option maxRecDepth 100000 in
theorem c_M_settles {sc : List Int} {d : Nat} {s : px_Z} {x1 : Int} {out : px_Z} (h : f_M_settles s x1 = some out) : px_D sc (d + 1) 185 0 [(0, .inr (.inr 150)), (1, .inl (x1))] [] (px_G1, s) (px_Qv out) := by
  unfold f_M_settles at h
  refine px_D_ls [(0, .inr (.inr 150)), (1, .inl (x1))] rfl rfl (List.forall_mem_cons.mpr ⟨rfl, List.forall_mem_cons.mpr ⟨rfl, fun _ h => absurd h List.not_mem_nil⟩⟩) ?_
  refine cl_M_settles_0  px_big _ _ _ h

def l_M_readAny_7 (k23 : px_Z → Option (Int × px_Z)) (k108 : px_Z → Option (Int × px_Z)) : Nat → px_Z → Int → Int → Option (Int × px_Z)
  | 0, _, _, _ => none
  | n + 1, s, x1, x2 => if (x2) = (0) then (if (f_M_isWord s 6) = (0) then (if (f_M_isWord s 5) = (0) then (f_M_settles s 10).bind (fun q4 => (f_M_settles q4 11).bind (fun q5 => if (x1) = (0) then some (0, q5) else (if (f_M_isSign q5 41) = (0) then k108 q5  else (f_M_settles (px_up (px_up q5 150 30 (px_wr ((q5 150 30) - 1))) 150 28 (px_wr (((px_up q5 150 30 (px_wr ((q5 150 30) - 1))) 150 28) - 1))) 9).bind (fun q8 => (f_M_reads q8 ).bind (fun q9 => l_M_readAny_7 k23 k108 n q9 (px_wr (x1 - 1)) x2))))) else (f_M_settles s 10).bind (fun q10 => (f_M_settles q10 11).bind (fun q11 => (f_M_waits q11 11).bind (fun q12 => (f_M_reads q12 ).bind (fun q13 => l_M_readAny_7 k23 k108 n q13 x1 1))))) else (f_M_settles s 10).bind (fun q14 => (f_M_waits q14 10).bind (fun q15 => (f_M_reads q15 ).bind (fun q16 => l_M_readAny_7 k23 k108 n q16 x1 1)))) else (if (f_M_isWord s 7) = (0) then (if (f_M_isSign s 40) = (0) then (f_M_readCompared s ).bind (fun q31 => if (q31.1) = ((-1)) then some (((-1), q31.2)) else (f_M_settles q31.2 9).bind (fun q33 => l_M_readAny_7 k23 k108 n q33 x1 0)) else (if (s 150 28) = (8) then k23 s  else (if (f_M_isWord s 7) = (0) then (if (f_M_isWord s 7) = (0) then (f_M_waits (px_up s 150 28 (px_wr ((s 150 28) + 1))) 12).bind (fun q42 => (f_M_reads q42 ).bind (fun q43 => l_M_readAny_7 k23 k108 n q43 (px_wr (x1 + 1)) x2)) else (f_M_waits (px_up s 150 28 (px_wr ((s 150 28) + 1))) 9).bind (fun q44 => (f_M_reads q44 ).bind (fun q45 => l_M_readAny_7 k23 k108 n q45 (px_wr (x1 + 1)) x2))) else (if (f_M_isWord s 7) = (0) then (f_M_waits (px_up s 150 28 (px_wr ((s 150 28) + 1))) 12).bind (fun q37 => (f_M_reads q37 ).bind (fun q38 => l_M_readAny_7 k23 k108 n q38 x1 x2)) else (f_M_waits (px_up s 150 28 (px_wr ((s 150 28) + 1))) 9).bind (fun q39 => (f_M_reads q39 ).bind (fun q40 => l_M_readAny_7 k23 k108 n q40 x1 x2)))))) else (if (s 150 28) = (8) then k23 s  else (if (f_M_isWord s 7) = (0) then (if (f_M_isWord s 7) = (0) then (f_M_waits (px_up s 150 28 (px_wr ((s 150 28) + 1))) 12).bind (fun q26 => (f_M_reads q26 ).bind (fun q27 => l_M_readAny_7 k23 k108 n q27 (px_wr (x1 + 1)) x2)) else (f_M_waits (px_up s 150 28 (px_wr ((s 150 28) + 1))) 9).bind (fun q28 => (f_M_reads q28 ).bind (fun q29 => l_M_readAny_7 k23 k108 n q29 (px_wr (x1 + 1)) x2))) else (if (f_M_isWord s 7) = (0) then (f_M_waits (px_up s 150 28 (px_wr ((s 150 28) + 1))) 12).bind (fun q21 => (f_M_reads q21 ).bind (fun q22 => l_M_readAny_7 k23 k108 n q22 x1 x2)) else (f_M_waits (px_up s 150 28 (px_wr ((s 150 28) + 1))) 9).bind (fun q23 => (f_M_reads q23 ).bind (fun q24 => l_M_readAny_7 k23 k108 n q24 x1 x2))))))
set_option maxHeartbeats 4000000 in
set_option maxRecDepth 100000 in
theorem cl_M_readAny_7 {sc : List Int} {d : Nat} {k23 : px_Z → Option (Int × px_Z)} {k108 : px_Z → Option (Int × px_Z)}  (hk23 : ∀ (s : px_Z) (out : Int × px_Z), k23 s  = some out → px_D sc (d + 7) 186 23 [(0, .inr (.inr 150))] [] (px_G1, s) (px_Qi out)) (hk108 : ∀ (s : px_Z) (out : Int × px_Z), k108 s  = some out → px_D sc (d + 7) 186 108 [(0, .inr (.inr 150))] [] (px_G1, s) (px_Qi out)) : ∀ (n : Nat) (s : px_Z) (x1 : Int) (x2 : Int) (out : Int × px_Z), l_M_readAny_7 k23 k108 n s x1 x2 = some out → px_D sc (d + 7) 186 7 [(0, .inr (.inr 150)), (1, .inl (x1)), (2, .inl (x2))] [] (px_G1, s) (px_Qi out) := by
  intro n
  induction n with
  | zero => intro s x1 x2 out h; cases h
  | succ n ih =>
    intro s x1 x2 out h
    rw [l_M_readAny_7] at h
    refine px_D_st 1 (ip1 := 8) (ls1 := [(0, .inr (.inr 150)), (1, .inl (x1)), (2, .inl (x2))]) (st1 := [.inl (x2)]) (h1 := (px_G1, s)) rfl ?_
    refine px_D_ifc rfl (fun hc => ?_) (fun hc => ?_)
    · have hc1 : (x2) = (0) := of_decide_eq_true hc
      rw [if_pos hc1] at h
      refine px_D_st 2 (ip1 := 63) (ls1 := [(0, .inr (.inr 150)), (1, .inl (x1)), (2, .inl (x2))]) (st1 := [.inl (6), .inr (.inr 150)]) (h1 := (px_G1, s)) rfl ?_
      refine px_D_call (as := [.inr (.inr 150), .inl (6)]) (rest := []) rfl rfl rfl rfl ?_
      refine px_D_mono (c_M_isWord (d := d + 6) rfl) ?_
      rintro _ _ ⟨rfl, rfl⟩
      show px_D sc (d + 7) 186 64 [(0, .inr (.inr 150)), (1, .inl (x1)), (2, .inl (x2))] [.inl (f_M_isWord s 6)] (px_G1, s) _
      refine px_D_ifc rfl (fun hc => ?_) (fun hc => ?_)
      · have hc2 : (f_M_isWord s 6) = (0) := of_decide_eq_true hc
        rw [if_pos hc2] at h
        refine px_D_st 2 (ip1 := 78) (ls1 := [(0, .inr (.inr 150)), (1, .inl (x1)), (2, .inl (x2))]) (st1 := [.inl (5), .inr (.inr 150)]) (h1 := (px_G1, s)) rfl ?_
        refine px_D_call (as := [.inr (.inr 150), .inl (5)]) (rest := []) rfl rfl rfl rfl ?_
        refine px_D_mono (c_M_isWord (d := d + 6) rfl) ?_
        rintro _ _ ⟨rfl, rfl⟩
        show px_D sc (d + 7) 186 79 [(0, .inr (.inr 150)), (1, .inl (x1)), (2, .inl (x2))] [.inl (f_M_isWord s 5)] (px_G1, s) _
        refine px_D_ifc rfl (fun hc => ?_) (fun hc => ?_)
        · have hc3 : (f_M_isWord s 5) = (0) := of_decide_eq_true hc
          rw [if_pos hc3] at h
          refine px_D_st 2 (ip1 := 96) (ls1 := [(0, .inr (.inr 150)), (1, .inl (x1)), (2, .inl (x2))]) (st1 := [.inl (10), .inr (.inr 150)]) (h1 := (px_G1, s)) rfl ?_
          refine px_D_call (as := [.inr (.inr 150), .inl (10)]) (rest := []) rfl rfl rfl rfl ?_
          obtain ⟨q4, hq4, h⟩ := Option.bind_eq_some_iff.mp h
          refine px_D_mono (c_M_settles (d := d + 5) hq4) ?_
          rintro _ _ ⟨rfl, rfl⟩
          show px_D sc (d + 7) 186 97 [(0, .inr (.inr 150)), (1, .inl (x1)), (2, .inl (x2))] [] (px_G1, q4) _
          refine px_D_st 2 (ip1 := 99) (ls1 := [(0, .inr (.inr 150)), (1, .inl (x1)), (2, .inl (x2))]) (st1 := [.inl (11), .inr (.inr 150)]) (h1 := (px_G1, q4)) rfl ?_
          refine px_D_call (as := [.inr (.inr 150), .inl (11)]) (rest := []) rfl rfl rfl rfl ?_
          obtain ⟨q5, hq5, h⟩ := Option.bind_eq_some_iff.mp h
          refine px_D_mono (c_M_settles (d := d + 5) hq5) ?_
          rintro _ _ ⟨rfl, rfl⟩
          show px_D sc (d + 7) 186 100 [(0, .inr (.inr 150)), (1, .inl (x1)), (2, .inl (x2))] [] (px_G1, q5) _
          refine px_D_st 1 (ip1 := 101) (ls1 := [(0, .inr (.inr 150)), (1, .inl (x1)), (2, .inl (x2))]) (st1 := [.inl (x1)]) (h1 := (px_G1, q5)) rfl ?_
          refine px_D_ifc rfl (fun hc => ?_) (fun hc => ?_)
          · have hc6 : ¬ ((x1) = (0)) := of_decide_eq_true hc
            rw [if_neg hc6] at h
            refine px_D_st 2 (ip1 := 106) (ls1 := [(0, .inr (.inr 150)), (1, .inl (x1)), (2, .inl (x2))]) (st1 := [.inl (41), .inr (.inr 150)]) (h1 := (px_G1, q5)) rfl ?_
            refine px_D_call (as := [.inr (.inr 150), .inl (41)]) (rest := []) rfl rfl rfl rfl ?_
            refine px_D_mono (c_M_isSign (d := d + 6) rfl) ?_
            rintro _ _ ⟨rfl, rfl⟩
            show px_D sc (d + 7) 186 107 [(0, .inr (.inr 150)), (1, .inl (x1)), (2, .inl (x2))] [.inl (f_M_isSign q5 41)] (px_G1, q5) _
            refine px_D_ifc rfl (fun hc => ?_) (fun hc => ?_)
            · have hc7 : ¬ ((f_M_isSign q5 41) = (0)) := of_decide_eq_true hc
              rw [if_neg hc7] at h
              refine px_D_st 18 (ip1 := 130) (ls1 := [(1, .inl (px_wr (x1 - 1))), (0, .inr (.inr 150)), (2, .inl (x2))]) (st1 := [.inl (9), .inr (.inr 150)]) (h1 := (px_G1, px_up (px_up q5 150 30 (px_wr ((q5 150 30) - 1))) 150 28 (px_wr (((px_up q5 150 30 (px_wr ((q5 150 30) - 1))) 150 28) - 1)))) rfl ?_
              refine px_D_call (as := [.inr (.inr 150), .inl (9)]) (rest := []) rfl rfl rfl rfl ?_
              obtain ⟨q8, hq8, h⟩ := Option.bind_eq_some_iff.mp h
              refine px_D_mono (c_M_settles (d := d + 5) hq8) ?_
              rintro _ _ ⟨rfl, rfl⟩
              show px_D sc (d + 7) 186 131 [(1, .inl (px_wr (x1 - 1))), (0, .inr (.inr 150)), (2, .inl (x2))] [] (px_G1, q8) _
              refine px_D_st 1 (ip1 := 132) (ls1 := [(1, .inl (px_wr (x1 - 1))), (0, .inr (.inr 150)), (2, .inl (x2))]) (st1 := [.inr (.inr 150)]) (h1 := (px_G1, q8)) rfl ?_
              refine px_D_call (as := [.inr (.inr 150)]) (rest := []) rfl rfl rfl rfl ?_
              obtain ⟨q9, hq9, h⟩ := Option.bind_eq_some_iff.mp h
              refine px_D_mono (c_M_reads (d := d + 4) hq9) ?_
              rintro _ _ ⟨rfl, rfl⟩
              show px_D sc (d + 7) 186 133 [(1, .inl (px_wr (x1 - 1))), (0, .inr (.inr 150)), (2, .inl (x2))] [] (px_G1, q9) _
              refine px_D_st 1 (ip1 := 7) (ls1 := [(1, .inl (px_wr (x1 - 1))), (0, .inr (.inr 150)), (2, .inl (x2))]) (st1 := []) (h1 := (px_G1, q9)) rfl ?_
              refine px_D_ls [(0, .inr (.inr 150)), (1, .inl (px_wr (x1 - 1))), (2, .inl (x2))] rfl rfl (List.forall_mem_cons.mpr ⟨rfl, List.forall_mem_cons.mpr ⟨rfl, List.forall_mem_cons.mpr ⟨rfl, fun _ h => absurd h List.not_mem_nil⟩⟩⟩) ?_
              exact ih _ _ _ _ h
            · have hc7 : (f_M_isSign q5 41) = (0) := Decidable.of_not_not (of_decide_eq_false hc)
              rw [if_pos hc7] at h
              refine px_D_ls [(0, .inr (.inr 150))] rfl rfl (List.forall_mem_cons.mpr ⟨rfl, fun _ h => absurd h List.not_mem_nil⟩) ?_
              exact hk108 _ _ h
          · have hc6 : (x1) = (0) := Decidable.of_not_not (of_decide_eq_false hc)
            rw [if_pos hc6] at h
            refine px_D_st 1 (ip1 := 103) (ls1 := [(0, .inr (.inr 150)), (1, .inl (x1)), (2, .inl (x2))]) (st1 := [.inl (0)]) (h1 := (px_G1, q5)) rfl ?_
            cases h
            exact px_D_iret rfl rfl ⟨rfl, rfl⟩
        · have hc3 : ¬ ((f_M_isWord s 5) = (0)) := of_decide_eq_false hc
          rw [if_neg hc3] at h
          refine px_D_st 2 (ip1 := 82) (ls1 := [(0, .inr (.inr 150)), (1, .inl (x1)), (2, .inl (x2))]) (st1 := [.inl (10), .inr (.inr 150)]) (h1 := (px_G1, s)) rfl ?_
          refine px_D_call (as := [.inr (.inr 150), .inl (10)]) (rest := []) rfl rfl rfl rfl ?_
          obtain ⟨q10, hq10, h⟩ := Option.bind_eq_some_iff.mp h
          refine px_D_mono (c_M_settles (d := d + 5) hq10) ?_
          rintro _ _ ⟨rfl, rfl⟩
          show px_D sc (d + 7) 186 83 [(0, .inr (.inr 150)), (1, .inl (x1)), (2, .inl (x2))] [] (px_G1, q10) _
          refine px_D_st 2 (ip1 := 85) (ls1 := [(0, .inr (.inr 150)), (1, .inl (x1)), (2, .inl (x2))]) (st1 := [.inl (11), .inr (.inr 150)]) (h1 := (px_G1, q10)) rfl ?_
          refine px_D_call (as := [.inr (.inr 150), .inl (11)]) (rest := []) rfl rfl rfl rfl ?_
          obtain ⟨q11, hq11, h⟩ := Option.bind_eq_some_iff.mp h
          refine px_D_mono (c_M_settles (d := d + 5) hq11) ?_
          rintro _ _ ⟨rfl, rfl⟩
          show px_D sc (d + 7) 186 86 [(0, .inr (.inr 150)), (1, .inl (x1)), (2, .inl (x2))] [] (px_G1, q11) _
          refine px_D_st 2 (ip1 := 88) (ls1 := [(0, .inr (.inr 150)), (1, .inl (x1)), (2, .inl (x2))]) (st1 := [.inl (11), .inr (.inr 150)]) (h1 := (px_G1, q11)) rfl ?_
          refine px_D_call (as := [.inr (.inr 150), .inl (11)]) (rest := []) rfl rfl rfl rfl ?_
          obtain ⟨q12, hq12, h⟩ := Option.bind_eq_some_iff.mp h
          refine px_D_mono (c_M_waits (d := d + 6) hq12) ?_
          rintro _ _ ⟨rfl, rfl⟩
          show px_D sc (d + 7) 186 89 [(0, .inr (.inr 150)), (1, .inl (x1)), (2, .inl (x2))] [] (px_G1, q12) _
          refine px_D_st 1 (ip1 := 90) (ls1 := [(0, .inr (.inr 150)), (1, .inl (x1)), (2, .inl (x2))]) (st1 := [.inr (.inr 150)]) (h1 := (px_G1, q12)) rfl ?_
          refine px_D_call (as := [.inr (.inr 150)]) (rest := []) rfl rfl rfl rfl ?_
          obtain ⟨q13, hq13, h⟩ := Option.bind_eq_some_iff.mp h
          refine px_D_mono (c_M_reads (d := d + 4) hq13) ?_
          rintro _ _ ⟨rfl, rfl⟩
          show px_D sc (d + 7) 186 91 [(0, .inr (.inr 150)), (1, .inl (x1)), (2, .inl (x2))] [] (px_G1, q13) _
          refine px_D_st 3 (ip1 := 7) (ls1 := [(2, .inl (1)), (0, .inr (.inr 150)), (1, .inl (x1))]) (st1 := []) (h1 := (px_G1, q13)) rfl ?_
          refine px_D_ls [(0, .inr (.inr 150)), (1, .inl (x1)), (2, .inl (1))] rfl rfl (List.forall_mem_cons.mpr ⟨rfl, List.forall_mem_cons.mpr ⟨rfl, List.forall_mem_cons.mpr ⟨rfl, fun _ h => absurd h List.not_mem_nil⟩⟩⟩) ?_
          exact ih _ _ _ _ h
      · have hc2 : ¬ ((f_M_isWord s 6) = (0)) := of_decide_eq_false hc
        rw [if_neg hc2] at h
        refine px_D_st 2 (ip1 := 67) (ls1 := [(0, .inr (.inr 150)), (1, .inl (x1)), (2, .inl (x2))]) (st1 := [.inl (10), .inr (.inr 150)]) (h1 := (px_G1, s)) rfl ?_
        refine px_D_call (as := [.inr (.inr 150), .inl (10)]) (rest := []) rfl rfl rfl rfl ?_
        obtain ⟨q14, hq14, h⟩ := Option.bind_eq_some_iff.mp h
        refine px_D_mono (c_M_settles (d := d + 5) hq14) ?_
        rintro _ _ ⟨rfl, rfl⟩
        show px_D sc (d + 7) 186 68 [(0, .inr (.inr 150)), (1, .inl (x1)), (2, .inl (x2))] [] (px_G1, q14) _
        refine px_D_st 2 (ip1 := 70) (ls1 := [(0, .inr (.inr 150)), (1, .inl (x1)), (2, .inl (x2))]) (st1 := [.inl (10), .inr (.inr 150)]) (h1 := (px_G1, q14)) rfl ?_
        refine px_D_call (as := [.inr (.inr 150), .inl (10)]) (rest := []) rfl rfl rfl rfl ?_
        obtain ⟨q15, hq15, h⟩ := Option.bind_eq_some_iff.mp h
        refine px_D_mono (c_M_waits (d := d + 6) hq15) ?_
        rintro _ _ ⟨rfl, rfl⟩
        show px_D sc (d + 7) 186 71 [(0, .inr (.inr 150)), (1, .inl (x1)), (2, .inl (x2))] [] (px_G1, q15) _
        refine px_D_st 1 (ip1 := 72) (ls1 := [(0, .inr (.inr 150)), (1, .inl (x1)), (2, .inl (x2))]) (st1 := [.inr (.inr 150)]) (h1 := (px_G1, q15)) rfl ?_
        refine px_D_call (as := [.inr (.inr 150)]) (rest := []) rfl rfl rfl rfl ?_
        obtain ⟨q16, hq16, h⟩ := Option.bind_eq_some_iff.mp h
        refine px_D_mono (c_M_reads (d := d + 4) hq16) ?_
        rintro _ _ ⟨rfl, rfl⟩
        show px_D sc (d + 7) 186 73 [(0, .inr (.inr 150)), (1, .inl (x1)), (2, .inl (x2))] [] (px_G1, q16) _
        refine px_D_st 3 (ip1 := 7) (ls1 := [(2, .inl (1)), (0, .inr (.inr 150)), (1, .inl (x1))]) (st1 := []) (h1 := (px_G1, q16)) rfl ?_
        refine px_D_ls [(0, .inr (.inr 150)), (1, .inl (x1)), (2, .inl (1))] rfl rfl (List.forall_mem_cons.mpr ⟨rfl, List.forall_mem_cons.mpr ⟨rfl, List.forall_mem_cons.mpr ⟨rfl, fun _ h => absurd h List.not_mem_nil⟩⟩⟩) ?_
        exact ih _ _ _ _ h
    · have hc1 : ¬ ((x2) = (0)) := of_decide_eq_false hc
      rw [if_neg hc1] at h
      refine px_D_st 2 (ip1 := 11) (ls1 := [(0, .inr (.inr 150)), (1, .inl (x1)), (2, .inl (x2))]) (st1 := [.inl (7), .inr (.inr 150)]) (h1 := (px_G1, s)) rfl ?_
      refine px_D_call (as := [.inr (.inr 150), .inl (7)]) (rest := []) rfl rfl rfl rfl ?_
      refine px_D_mono (c_M_isWord (d := d + 6) rfl) ?_
      rintro _ _ ⟨rfl, rfl⟩
      show px_D sc (d + 7) 186 12 [(0, .inr (.inr 150)), (1, .inl (x1)), (2, .inl (x2))] [.inl (f_M_isWord s 7)] (px_G1, s) _
      refine px_D_st 2 (ip1 := 14) (ls1 := [(3, .inl (f_M_isWord s 7)), (0, .inr (.inr 150)), (1, .inl (x1)), (2, .inl (x2))]) (st1 := [.inl (f_M_isWord s 7)]) (h1 := (px_G1, s)) rfl ?_
      refine px_D_ifc rfl (fun hc => ?_) (fun hc => ?_)
      · have hc17 : ¬ ((f_M_isWord s 7) = (0)) := of_decide_eq_true hc
        rw [if_neg hc17] at h
        refine px_D_st 3 (ip1 := 22) (ls1 := [(3, .inl (f_M_isWord s 7)), (0, .inr (.inr 150)), (1, .inl (x1)), (2, .inl (x2))]) (st1 := [.inl (8), .inl (s 150 28)]) (h1 := (px_G1, s)) rfl ?_
        refine px_D_icmp rfl (fun hc => ?_) (fun hc => ?_)
        · have hc18 : ¬ ((s 150 28) = (8)) := of_decide_eq_true hc
          rw [if_neg hc18] at h
          refine px_D_st 7 (ip1 := 34) (ls1 := [(3, .inl (f_M_isWord s 7)), (0, .inr (.inr 150)), (1, .inl (x1)), (2, .inl (x2))]) (st1 := [.inl (f_M_isWord s 7)]) (h1 := (px_G1, px_up s 150 28 (px_wr ((s 150 28) + 1)))) rfl ?_
          refine px_D_ifc rfl (fun hc => ?_) (fun hc => ?_)
          · have hc19 : ¬ ((f_M_isWord s 7) = (0)) := of_decide_eq_true hc
            rw [if_neg hc19] at h
            refine px_D_st 2 (ip1 := 41) (ls1 := [(3, .inl (f_M_isWord s 7)), (0, .inr (.inr 150)), (1, .inl (x1)), (2, .inl (x2))]) (st1 := [.inl (f_M_isWord s 7), .inr (.inr 150)]) (h1 := (px_G1, px_up s 150 28 (px_wr ((s 150 28) + 1)))) rfl ?_
            refine px_D_ifc rfl (fun hc => ?_) (fun hc => ?_)
            · have hc20 : (f_M_isWord s 7) = (0) := of_decide_eq_true hc
              rw [if_pos hc20] at h
              refine px_D_st 1 (ip1 := 45) (ls1 := [(3, .inl (f_M_isWord s 7)), (0, .inr (.inr 150)), (1, .inl (x1)), (2, .inl (x2))]) (st1 := [.inl (12), .inr (.inr 150)]) (h1 := (px_G1, px_up s 150 28 (px_wr ((s 150 28) + 1)))) rfl ?_
              refine px_D_call (as := [.inr (.inr 150), .inl (12)]) (rest := []) rfl rfl rfl rfl ?_
              obtain ⟨q21, hq21, h⟩ := Option.bind_eq_some_iff.mp h
              refine px_D_mono (c_M_waits (d := d + 6) hq21) ?_
              rintro _ _ ⟨rfl, rfl⟩
              show px_D sc (d + 7) 186 46 [(3, .inl (f_M_isWord s 7)), (0, .inr (.inr 150)), (1, .inl (x1)), (2, .inl (x2))] [] (px_G1, q21) _
              refine px_D_st 1 (ip1 := 47) (ls1 := [(3, .inl (f_M_isWord s 7)), (0, .inr (.inr 150)), (1, .inl (x1)), (2, .inl (x2))]) (st1 := [.inr (.inr 150)]) (h1 := (px_G1, q21)) rfl ?_
              refine px_D_call (as := [.inr (.inr 150)]) (rest := []) rfl rfl rfl rfl ?_
              obtain ⟨q22, hq22, h⟩ := Option.bind_eq_some_iff.mp h
              refine px_D_mono (c_M_reads (d := d + 4) hq22) ?_
              rintro _ _ ⟨rfl, rfl⟩
              show px_D sc (d + 7) 186 48 [(3, .inl (f_M_isWord s 7)), (0, .inr (.inr 150)), (1, .inl (x1)), (2, .inl (x2))] [] (px_G1, q22) _
              refine px_D_st 1 (ip1 := 7) (ls1 := [(3, .inl (f_M_isWord s 7)), (0, .inr (.inr 150)), (1, .inl (x1)), (2, .inl (x2))]) (st1 := []) (h1 := (px_G1, q22)) rfl ?_
              refine px_D_ls [(0, .inr (.inr 150)), (1, .inl (x1)), (2, .inl (x2))] rfl rfl (List.forall_mem_cons.mpr ⟨rfl, List.forall_mem_cons.mpr ⟨rfl, List.forall_mem_cons.mpr ⟨rfl, fun _ h => absurd h List.not_mem_nil⟩⟩⟩) ?_
              exact ih _ _ _ _ h
            · have hc20 : ¬ ((f_M_isWord s 7) = (0)) := of_decide_eq_false hc
              rw [if_neg hc20] at h
              refine px_D_st 2 (ip1 := 45) (ls1 := [(3, .inl (f_M_isWord s 7)), (0, .inr (.inr 150)), (1, .inl (x1)), (2, .inl (x2))]) (st1 := [.inl (9), .inr (.inr 150)]) (h1 := (px_G1, px_up s 150 28 (px_wr ((s 150 28) + 1)))) rfl ?_
              refine px_D_call (as := [.inr (.inr 150), .inl (9)]) (rest := []) rfl rfl rfl rfl ?_
              obtain ⟨q23, hq23, h⟩ := Option.bind_eq_some_iff.mp h
              refine px_D_mono (c_M_waits (d := d + 6) hq23) ?_
              rintro _ _ ⟨rfl, rfl⟩
              show px_D sc (d + 7) 186 46 [(3, .inl (f_M_isWord s 7)), (0, .inr (.inr 150)), (1, .inl (x1)), (2, .inl (x2))] [] (px_G1, q23) _
              refine px_D_st 1 (ip1 := 47) (ls1 := [(3, .inl (f_M_isWord s 7)), (0, .inr (.inr 150)), (1, .inl (x1)), (2, .inl (x2))]) (st1 := [.inr (.inr 150)]) (h1 := (px_G1, q23)) rfl ?_
              refine px_D_call (as := [.inr (.inr 150)]) (rest := []) rfl rfl rfl rfl ?_
              obtain ⟨q24, hq24, h⟩ := Option.bind_eq_some_iff.mp h
              refine px_D_mono (c_M_reads (d := d + 4) hq24) ?_
              rintro _ _ ⟨rfl, rfl⟩
              show px_D sc (d + 7) 186 48 [(3, .inl (f_M_isWord s 7)), (0, .inr (.inr 150)), (1, .inl (x1)), (2, .inl (x2))] [] (px_G1, q24) _
              refine px_D_st 1 (ip1 := 7) (ls1 := [(3, .inl (f_M_isWord s 7)), (0, .inr (.inr 150)), (1, .inl (x1)), (2, .inl (x2))]) (st1 := []) (h1 := (px_G1, q24)) rfl ?_
              refine px_D_ls [(0, .inr (.inr 150)), (1, .inl (x1)), (2, .inl (x2))] rfl rfl (List.forall_mem_cons.mpr ⟨rfl, List.forall_mem_cons.mpr ⟨rfl, List.forall_mem_cons.mpr ⟨rfl, fun _ h => absurd h List.not_mem_nil⟩⟩⟩) ?_
              exact ih _ _ _ _ h
          · have hc19 : (f_M_isWord s 7) = (0) := Decidable.of_not_not (of_decide_eq_false hc)
            rw [if_pos hc19] at h
            refine px_D_st 6 (ip1 := 41) (ls1 := [(1, .inl (px_wr (x1 + 1))), (3, .inl (f_M_isWord s 7)), (0, .inr (.inr 150)), (2, .inl (x2))]) (st1 := [.inl (f_M_isWord s 7), .inr (.inr 150)]) (h1 := (px_G1, px_up s 150 28 (px_wr ((s 150 28) + 1)))) rfl ?_
            refine px_D_ifc rfl (fun hc => ?_) (fun hc => ?_)
            · have hc25 : (f_M_isWord s 7) = (0) := of_decide_eq_true hc
              rw [if_pos hc25] at h
              refine px_D_st 1 (ip1 := 45) (ls1 := [(1, .inl (px_wr (x1 + 1))), (3, .inl (f_M_isWord s 7)), (0, .inr (.inr 150)), (2, .inl (x2))]) (st1 := [.inl (12), .inr (.inr 150)]) (h1 := (px_G1, px_up s 150 28 (px_wr ((s 150 28) + 1)))) rfl ?_
              refine px_D_call (as := [.inr (.inr 150), .inl (12)]) (rest := []) rfl rfl rfl rfl ?_
              obtain ⟨q26, hq26, h⟩ := Option.bind_eq_some_iff.mp h
              refine px_D_mono (c_M_waits (d := d + 6) hq26) ?_
              rintro _ _ ⟨rfl, rfl⟩
              show px_D sc (d + 7) 186 46 [(1, .inl (px_wr (x1 + 1))), (3, .inl (f_M_isWord s 7)), (0, .inr (.inr 150)), (2, .inl (x2))] [] (px_G1, q26) _
              refine px_D_st 1 (ip1 := 47) (ls1 := [(1, .inl (px_wr (x1 + 1))), (3, .inl (f_M_isWord s 7)), (0, .inr (.inr 150)), (2, .inl (x2))]) (st1 := [.inr (.inr 150)]) (h1 := (px_G1, q26)) rfl ?_
              refine px_D_call (as := [.inr (.inr 150)]) (rest := []) rfl rfl rfl rfl ?_
              obtain ⟨q27, hq27, h⟩ := Option.bind_eq_some_iff.mp h
              refine px_D_mono (c_M_reads (d := d + 4) hq27) ?_
              rintro _ _ ⟨rfl, rfl⟩
              show px_D sc (d + 7) 186 48 [(1, .inl (px_wr (x1 + 1))), (3, .inl (f_M_isWord s 7)), (0, .inr (.inr 150)), (2, .inl (x2))] [] (px_G1, q27) _
              refine px_D_st 1 (ip1 := 7) (ls1 := [(1, .inl (px_wr (x1 + 1))), (3, .inl (f_M_isWord s 7)), (0, .inr (.inr 150)), (2, .inl (x2))]) (st1 := []) (h1 := (px_G1, q27)) rfl ?_
              refine px_D_ls [(0, .inr (.inr 150)), (1, .inl (px_wr (x1 + 1))), (2, .inl (x2))] rfl rfl (List.forall_mem_cons.mpr ⟨rfl, List.forall_mem_cons.mpr ⟨rfl, List.forall_mem_cons.mpr ⟨rfl, fun _ h => absurd h List.not_mem_nil⟩⟩⟩) ?_
              exact ih _ _ _ _ h
            · have hc25 : ¬ ((f_M_isWord s 7) = (0)) := of_decide_eq_false hc
              rw [if_neg hc25] at h
              refine px_D_st 2 (ip1 := 45) (ls1 := [(1, .inl (px_wr (x1 + 1))), (3, .inl (f_M_isWord s 7)), (0, .inr (.inr 150)), (2, .inl (x2))]) (st1 := [.inl (9), .inr (.inr 150)]) (h1 := (px_G1, px_up s 150 28 (px_wr ((s 150 28) + 1)))) rfl ?_
              refine px_D_call (as := [.inr (.inr 150), .inl (9)]) (rest := []) rfl rfl rfl rfl ?_
              obtain ⟨q28, hq28, h⟩ := Option.bind_eq_some_iff.mp h
              refine px_D_mono (c_M_waits (d := d + 6) hq28) ?_
              rintro _ _ ⟨rfl, rfl⟩
              show px_D sc (d + 7) 186 46 [(1, .inl (px_wr (x1 + 1))), (3, .inl (f_M_isWord s 7)), (0, .inr (.inr 150)), (2, .inl (x2))] [] (px_G1, q28) _
              refine px_D_st 1 (ip1 := 47) (ls1 := [(1, .inl (px_wr (x1 + 1))), (3, .inl (f_M_isWord s 7)), (0, .inr (.inr 150)), (2, .inl (x2))]) (st1 := [.inr (.inr 150)]) (h1 := (px_G1, q28)) rfl ?_
              refine px_D_call (as := [.inr (.inr 150)]) (rest := []) rfl rfl rfl rfl ?_
              obtain ⟨q29, hq29, h⟩ := Option.bind_eq_some_iff.mp h
              refine px_D_mono (c_M_reads (d := d + 4) hq29) ?_
              rintro _ _ ⟨rfl, rfl⟩
              show px_D sc (d + 7) 186 48 [(1, .inl (px_wr (x1 + 1))), (3, .inl (f_M_isWord s 7)), (0, .inr (.inr 150)), (2, .inl (x2))] [] (px_G1, q29) _
              refine px_D_st 1 (ip1 := 7) (ls1 := [(1, .inl (px_wr (x1 + 1))), (3, .inl (f_M_isWord s 7)), (0, .inr (.inr 150)), (2, .inl (x2))]) (st1 := []) (h1 := (px_G1, q29)) rfl ?_
              refine px_D_ls [(0, .inr (.inr 150)), (1, .inl (px_wr (x1 + 1))), (2, .inl (x2))] rfl rfl (List.forall_mem_cons.mpr ⟨rfl, List.forall_mem_cons.mpr ⟨rfl, List.forall_mem_cons.mpr ⟨rfl, fun _ h => absurd h List.not_mem_nil⟩⟩⟩) ?_
              exact ih _ _ _ _ h
        · have hc18 : (s 150 28) = (8) := Decidable.of_not_not (of_decide_eq_false hc)
          rw [if_pos hc18] at h
          refine px_D_ls [(0, .inr (.inr 150))] rfl rfl (List.forall_mem_cons.mpr ⟨rfl, fun _ h => absurd h List.not_mem_nil⟩) ?_
          exact hk23 _ _ h
      · have hc17 : (f_M_isWord s 7) = (0) := Decidable.of_not_not (of_decide_eq_false hc)
        rw [if_pos hc17] at h
        refine px_D_st 2 (ip1 := 17) (ls1 := [(3, .inl (f_M_isWord s 7)), (0, .inr (.inr 150)), (1, .inl (x1)), (2, .inl (x2))]) (st1 := [.inl (40), .inr (.inr 150)]) (h1 := (px_G1, s)) rfl ?_
        refine px_D_call (as := [.inr (.inr 150), .inl (40)]) (rest := []) rfl rfl rfl rfl ?_
        refine px_D_mono (c_M_isSign (d := d + 6) rfl) ?_
        rintro _ _ ⟨rfl, rfl⟩
        show px_D sc (d + 7) 186 18 [(3, .inl (f_M_isWord s 7)), (0, .inr (.inr 150)), (1, .inl (x1)), (2, .inl (x2))] [.inl (f_M_isSign s 40)] (px_G1, s) _
        refine px_D_ifc rfl (fun hc => ?_) (fun hc => ?_)
        · have hc30 : (f_M_isSign s 40) = (0) := of_decide_eq_true hc
          rw [if_pos hc30] at h
          refine px_D_st 1 (ip1 := 50) (ls1 := [(3, .inl (f_M_isWord s 7)), (0, .inr (.inr 150)), (1, .inl (x1)), (2, .inl (x2))]) (st1 := [.inr (.inr 150)]) (h1 := (px_G1, s)) rfl ?_
          refine px_D_call (as := [.inr (.inr 150)]) (rest := []) rfl rfl rfl rfl ?_
          obtain ⟨q31, hq31, h⟩ := Option.bind_eq_some_iff.mp h
          refine px_D_mono (c_M_readCompared (d := d + 0) hq31) ?_
          rintro _ _ ⟨rfl, rfl⟩
          show px_D sc (d + 7) 186 51 [(3, .inl (f_M_isWord s 7)), (0, .inr (.inr 150)), (1, .inl (x1)), (2, .inl (x2))] [.inl (q31.1)] (px_G1, q31.2) _
          refine px_D_st 1 (ip1 := 52) (ls1 := [(3, .inl (f_M_isWord s 7)), (0, .inr (.inr 150)), (1, .inl (x1)), (2, .inl (x2))]) (st1 := [.inl ((-1)), .inl (q31.1)]) (h1 := (px_G1, q31.2)) rfl ?_
          refine px_D_icmp rfl (fun hc => ?_) (fun hc => ?_)
          · have hc32 : ¬ ((q31.1) = ((-1))) := of_decide_eq_true hc
            rw [if_neg hc32] at h
            refine px_D_st 2 (ip1 := 57) (ls1 := [(3, .inl (f_M_isWord s 7)), (0, .inr (.inr 150)), (1, .inl (x1)), (2, .inl (x2))]) (st1 := [.inl (9), .inr (.inr 150)]) (h1 := (px_G1, q31.2)) rfl ?_
            refine px_D_call (as := [.inr (.inr 150), .inl (9)]) (rest := []) rfl rfl rfl rfl ?_
            obtain ⟨q33, hq33, h⟩ := Option.bind_eq_some_iff.mp h
            refine px_D_mono (c_M_settles (d := d + 5) hq33) ?_
            rintro _ _ ⟨rfl, rfl⟩
            show px_D sc (d + 7) 186 58 [(3, .inl (f_M_isWord s 7)), (0, .inr (.inr 150)), (1, .inl (x1)), (2, .inl (x2))] [] (px_G1, q33) _
            refine px_D_st 3 (ip1 := 7) (ls1 := [(2, .inl (0)), (3, .inl (f_M_isWord s 7)), (0, .inr (.inr 150)), (1, .inl (x1))]) (st1 := []) (h1 := (px_G1, q33)) rfl ?_
            refine px_D_ls [(0, .inr (.inr 150)), (1, .inl (x1)), (2, .inl (0))] rfl rfl (List.forall_mem_cons.mpr ⟨rfl, List.forall_mem_cons.mpr ⟨rfl, List.forall_mem_cons.mpr ⟨rfl, fun _ h => absurd h List.not_mem_nil⟩⟩⟩) ?_
            exact ih _ _ _ _ h
          · have hc32 : (q31.1) = ((-1)) := Decidable.of_not_not (of_decide_eq_false hc)
            rw [if_pos hc32] at h
            refine px_D_st 1 (ip1 := 54) (ls1 := [(3, .inl (f_M_isWord s 7)), (0, .inr (.inr 150)), (1, .inl (x1)), (2, .inl (x2))]) (st1 := [.inl ((-1))]) (h1 := (px_G1, q31.2)) rfl ?_
            cases h
            exact px_D_iret rfl rfl ⟨rfl, rfl⟩
        · have hc30 : ¬ ((f_M_isSign s 40) = (0)) := of_decide_eq_false hc
          rw [if_neg hc30] at h
          refine px_D_st 3 (ip1 := 22) (ls1 := [(3, .inl (f_M_isWord s 7)), (0, .inr (.inr 150)), (1, .inl (x1)), (2, .inl (x2))]) (st1 := [.inl (8), .inl (s 150 28)]) (h1 := (px_G1, s)) rfl ?_
          refine px_D_icmp rfl (fun hc => ?_) (fun hc => ?_)
          · have hc34 : ¬ ((s 150 28) = (8)) := of_decide_eq_true hc
            rw [if_neg hc34] at h
            refine px_D_st 7 (ip1 := 34) (ls1 := [(3, .inl (f_M_isWord s 7)), (0, .inr (.inr 150)), (1, .inl (x1)), (2, .inl (x2))]) (st1 := [.inl (f_M_isWord s 7)]) (h1 := (px_G1, px_up s 150 28 (px_wr ((s 150 28) + 1)))) rfl ?_
            refine px_D_ifc rfl (fun hc => ?_) (fun hc => ?_)
            · have hc35 : ¬ ((f_M_isWord s 7) = (0)) := of_decide_eq_true hc
              rw [if_neg hc35] at h
              refine px_D_st 2 (ip1 := 41) (ls1 := [(3, .inl (f_M_isWord s 7)), (0, .inr (.inr 150)), (1, .inl (x1)), (2, .inl (x2))]) (st1 := [.inl (f_M_isWord s 7), .inr (.inr 150)]) (h1 := (px_G1, px_up s 150 28 (px_wr ((s 150 28) + 1)))) rfl ?_
              refine px_D_ifc rfl (fun hc => ?_) (fun hc => ?_)
              · have hc36 : (f_M_isWord s 7) = (0) := of_decide_eq_true hc
                rw [if_pos hc36] at h
                refine px_D_st 1 (ip1 := 45) (ls1 := [(3, .inl (f_M_isWord s 7)), (0, .inr (.inr 150)), (1, .inl (x1)), (2, .inl (x2))]) (st1 := [.inl (12), .inr (.inr 150)]) (h1 := (px_G1, px_up s 150 28 (px_wr ((s 150 28) + 1)))) rfl ?_
                refine px_D_call (as := [.inr (.inr 150), .inl (12)]) (rest := []) rfl rfl rfl rfl ?_
                obtain ⟨q37, hq37, h⟩ := Option.bind_eq_some_iff.mp h
                refine px_D_mono (c_M_waits (d := d + 6) hq37) ?_
                rintro _ _ ⟨rfl, rfl⟩
                show px_D sc (d + 7) 186 46 [(3, .inl (f_M_isWord s 7)), (0, .inr (.inr 150)), (1, .inl (x1)), (2, .inl (x2))] [] (px_G1, q37) _
                refine px_D_st 1 (ip1 := 47) (ls1 := [(3, .inl (f_M_isWord s 7)), (0, .inr (.inr 150)), (1, .inl (x1)), (2, .inl (x2))]) (st1 := [.inr (.inr 150)]) (h1 := (px_G1, q37)) rfl ?_
                refine px_D_call (as := [.inr (.inr 150)]) (rest := []) rfl rfl rfl rfl ?_
                obtain ⟨q38, hq38, h⟩ := Option.bind_eq_some_iff.mp h
                refine px_D_mono (c_M_reads (d := d + 4) hq38) ?_
                rintro _ _ ⟨rfl, rfl⟩
                show px_D sc (d + 7) 186 48 [(3, .inl (f_M_isWord s 7)), (0, .inr (.inr 150)), (1, .inl (x1)), (2, .inl (x2))] [] (px_G1, q38) _
                refine px_D_st 1 (ip1 := 7) (ls1 := [(3, .inl (f_M_isWord s 7)), (0, .inr (.inr 150)), (1, .inl (x1)), (2, .inl (x2))]) (st1 := []) (h1 := (px_G1, q38)) rfl ?_
                refine px_D_ls [(0, .inr (.inr 150)), (1, .inl (x1)), (2, .inl (x2))] rfl rfl (List.forall_mem_cons.mpr ⟨rfl, List.forall_mem_cons.mpr ⟨rfl, List.forall_mem_cons.mpr ⟨rfl, fun _ h => absurd h List.not_mem_nil⟩⟩⟩) ?_
                exact ih _ _ _ _ h
              · have hc36 : ¬ ((f_M_isWord s 7) = (0)) := of_decide_eq_false hc
                rw [if_neg hc36] at h
                refine px_D_st 2 (ip1 := 45) (ls1 := [(3, .inl (f_M_isWord s 7)), (0, .inr (.inr 150)), (1, .inl (x1)), (2, .inl (x2))]) (st1 := [.inl (9), .inr (.inr 150)]) (h1 := (px_G1, px_up s 150 28 (px_wr ((s 150 28) + 1)))) rfl ?_
                refine px_D_call (as := [.inr (.inr 150), .inl (9)]) (rest := []) rfl rfl rfl rfl ?_
                obtain ⟨q39, hq39, h⟩ := Option.bind_eq_some_iff.mp h
                refine px_D_mono (c_M_waits (d := d + 6) hq39) ?_
                rintro _ _ ⟨rfl, rfl⟩
                show px_D sc (d + 7) 186 46 [(3, .inl (f_M_isWord s 7)), (0, .inr (.inr 150)), (1, .inl (x1)), (2, .inl (x2))] [] (px_G1, q39) _
                refine px_D_st 1 (ip1 := 47) (ls1 := [(3, .inl (f_M_isWord s 7)), (0, .inr (.inr 150)), (1, .inl (x1)), (2, .inl (x2))]) (st1 := [.inr (.inr 150)]) (h1 := (px_G1, q39)) rfl ?_
                refine px_D_call (as := [.inr (.inr 150)]) (rest := []) rfl rfl rfl rfl ?_
                obtain ⟨q40, hq40, h⟩ := Option.bind_eq_some_iff.mp h
                refine px_D_mono (c_M_reads (d := d + 4) hq40) ?_
                rintro _ _ ⟨rfl, rfl⟩
                show px_D sc (d + 7) 186 48 [(3, .inl (f_M_isWord s 7)), (0, .inr (.inr 150)), (1, .inl (x1)), (2, .inl (x2))] [] (px_G1, q40) _
                refine px_D_st 1 (ip1 := 7) (ls1 := [(3, .inl (f_M_isWord s 7)), (0, .inr (.inr 150)), (1, .inl (x1)), (2, .inl (x2))]) (st1 := []) (h1 := (px_G1, q40)) rfl ?_
                refine px_D_ls [(0, .inr (.inr 150)), (1, .inl (x1)), (2, .inl (x2))] rfl rfl (List.forall_mem_cons.mpr ⟨rfl, List.forall_mem_cons.mpr ⟨rfl, List.forall_mem_cons.mpr ⟨rfl, fun _ h => absurd h List.not_mem_nil⟩⟩⟩) ?_
                exact ih _ _ _ _ h
            · have hc35 : (f_M_isWord s 7) = (0) := Decidable.of_not_not (of_decide_eq_false hc)
              rw [if_pos hc35] at h
              refine px_D_st 6 (ip1 := 41) (ls1 := [(1, .inl (px_wr (x1 + 1))), (3, .inl (f_M_isWord s 7)), (0, .inr (.inr 150)), (2, .inl (x2))]) (st1 := [.inl (f_M_isWord s 7), .inr (.inr 150)]) (h1 := (px_G1, px_up s 150 28 (px_wr ((s 150 28) + 1)))) rfl ?_
              refine px_D_ifc rfl (fun hc => ?_) (fun hc => ?_)
              · have hc41 : (f_M_isWord s 7) = (0) := of_decide_eq_true hc
                rw [if_pos hc41] at h
                refine px_D_st 1 (ip1 := 45) (ls1 := [(1, .inl (px_wr (x1 + 1))), (3, .inl (f_M_isWord s 7)), (0, .inr (.inr 150)), (2, .inl (x2))]) (st1 := [.inl (12), .inr (.inr 150)]) (h1 := (px_G1, px_up s 150 28 (px_wr ((s 150 28) + 1)))) rfl ?_
                refine px_D_call (as := [.inr (.inr 150), .inl (12)]) (rest := []) rfl rfl rfl rfl ?_
                obtain ⟨q42, hq42, h⟩ := Option.bind_eq_some_iff.mp h
                refine px_D_mono (c_M_waits (d := d + 6) hq42) ?_
                rintro _ _ ⟨rfl, rfl⟩
                show px_D sc (d + 7) 186 46 [(1, .inl (px_wr (x1 + 1))), (3, .inl (f_M_isWord s 7)), (0, .inr (.inr 150)), (2, .inl (x2))] [] (px_G1, q42) _
                refine px_D_st 1 (ip1 := 47) (ls1 := [(1, .inl (px_wr (x1 + 1))), (3, .inl (f_M_isWord s 7)), (0, .inr (.inr 150)), (2, .inl (x2))]) (st1 := [.inr (.inr 150)]) (h1 := (px_G1, q42)) rfl ?_
                refine px_D_call (as := [.inr (.inr 150)]) (rest := []) rfl rfl rfl rfl ?_
                obtain ⟨q43, hq43, h⟩ := Option.bind_eq_some_iff.mp h
                refine px_D_mono (c_M_reads (d := d + 4) hq43) ?_
                rintro _ _ ⟨rfl, rfl⟩
                show px_D sc (d + 7) 186 48 [(1, .inl (px_wr (x1 + 1))), (3, .inl (f_M_isWord s 7)), (0, .inr (.inr 150)), (2, .inl (x2))] [] (px_G1, q43) _
                refine px_D_st 1 (ip1 := 7) (ls1 := [(1, .inl (px_wr (x1 + 1))), (3, .inl (f_M_isWord s 7)), (0, .inr (.inr 150)), (2, .inl (x2))]) (st1 := []) (h1 := (px_G1, q43)) rfl ?_
                refine px_D_ls [(0, .inr (.inr 150)), (1, .inl (px_wr (x1 + 1))), (2, .inl (x2))] rfl rfl (List.forall_mem_cons.mpr ⟨rfl, List.forall_mem_cons.mpr ⟨rfl, List.forall_mem_cons.mpr ⟨rfl, fun _ h => absurd h List.not_mem_nil⟩⟩⟩) ?_
                exact ih _ _ _ _ h
              · have hc41 : ¬ ((f_M_isWord s 7) = (0)) := of_decide_eq_false hc
                rw [if_neg hc41] at h
                refine px_D_st 2 (ip1 := 45) (ls1 := [(1, .inl (px_wr (x1 + 1))), (3, .inl (f_M_isWord s 7)), (0, .inr (.inr 150)), (2, .inl (x2))]) (st1 := [.inl (9), .inr (.inr 150)]) (h1 := (px_G1, px_up s 150 28 (px_wr ((s 150 28) + 1)))) rfl ?_
                refine px_D_call (as := [.inr (.inr 150), .inl (9)]) (rest := []) rfl rfl rfl rfl ?_
                obtain ⟨q44, hq44, h⟩ := Option.bind_eq_some_iff.mp h
                refine px_D_mono (c_M_waits (d := d + 6) hq44) ?_
                rintro _ _ ⟨rfl, rfl⟩
                show px_D sc (d + 7) 186 46 [(1, .inl (px_wr (x1 + 1))), (3, .inl (f_M_isWord s 7)), (0, .inr (.inr 150)), (2, .inl (x2))] [] (px_G1, q44) _
                refine px_D_st 1 (ip1 := 47) (ls1 := [(1, .inl (px_wr (x1 + 1))), (3, .inl (f_M_isWord s 7)), (0, .inr (.inr 150)), (2, .inl (x2))]) (st1 := [.inr (.inr 150)]) (h1 := (px_G1, q44)) rfl ?_
                refine px_D_call (as := [.inr (.inr 150)]) (rest := []) rfl rfl rfl rfl ?_
                obtain ⟨q45, hq45, h⟩ := Option.bind_eq_some_iff.mp h
                refine px_D_mono (c_M_reads (d := d + 4) hq45) ?_
                rintro _ _ ⟨rfl, rfl⟩
                show px_D sc (d + 7) 186 48 [(1, .inl (px_wr (x1 + 1))), (3, .inl (f_M_isWord s 7)), (0, .inr (.inr 150)), (2, .inl (x2))] [] (px_G1, q45) _
                refine px_D_st 1 (ip1 := 7) (ls1 := [(1, .inl (px_wr (x1 + 1))), (3, .inl (f_M_isWord s 7)), (0, .inr (.inr 150)), (2, .inl (x2))]) (st1 := []) (h1 := (px_G1, q45)) rfl ?_
                refine px_D_ls [(0, .inr (.inr 150)), (1, .inl (px_wr (x1 + 1))), (2, .inl (x2))] rfl rfl (List.forall_mem_cons.mpr ⟨rfl, List.forall_mem_cons.mpr ⟨rfl, List.forall_mem_cons.mpr ⟨rfl, fun _ h => absurd h List.not_mem_nil⟩⟩⟩) ?_
                exact ih _ _ _ _ h
          · have hc34 : (s 150 28) = (8) := Decidable.of_not_not (of_decide_eq_false hc)
            rw [if_pos hc34] at h
            refine px_D_ls [(0, .inr (.inr 150))] rfl rfl (List.forall_mem_cons.mpr ⟨rfl, fun _ h => absurd h List.not_mem_nil⟩) ?_
            exact hk23 _ _ h
def f_M_readAny (s : px_Z) : Option (Int × px_Z) := l_M_readAny_7 (fun s => (f_M_errs s 3).bind (fun q46 => some (q46.1, q46.2))) (fun s => (f_M_errs s 1).bind (fun q47 => some (q47.1, q47.2))) px_big (px_up s 150 30 0) 0 1
set_option maxHeartbeats 4000000 in
set_option maxRecDepth 100000 in
theorem c_M_readAny {sc : List Int} {d : Nat} {s : px_Z} {out : Int × px_Z} (h : f_M_readAny s  = some out) : px_D sc (d + 7) 186 0 [(0, .inr (.inr 150))] [] (px_G1, s) (px_Qi out) := by
  unfold f_M_readAny at h
  refine px_D_st 7 (ip1 := 7) (ls1 := [(2, .inl (1)), (1, .inl (0)), (0, .inr (.inr 150))]) (st1 := []) (h1 := (px_G1, px_up s 150 30 0)) rfl ?_
  refine px_D_ls [(0, .inr (.inr 150)), (1, .inl (0)), (2, .inl (1))] rfl rfl (List.forall_mem_cons.mpr ⟨rfl, List.forall_mem_cons.mpr ⟨rfl, List.forall_mem_cons.mpr ⟨rfl, fun _ h => absurd h List.not_mem_nil⟩⟩⟩) ?_
  refine cl_M_readAny_7 ?_ ?_ px_big _ _ _ _ h
  · intro s out h
    refine px_D_st 2 (ip1 := 25) (ls1 := [(0, .inr (.inr 150))]) (st1 := [.inl (3), .inr (.inr 150)]) (h1 := (px_G1, s)) rfl ?_
    refine px_D_call (as := [.inr (.inr 150), .inl (3)]) (rest := []) rfl rfl rfl rfl ?_
    obtain ⟨q46, hq46, h⟩ := Option.bind_eq_some_iff.mp h
    refine px_D_mono (c_M_errs (d := d + 6) hq46) ?_
    rintro _ _ ⟨rfl, rfl⟩
    show px_D sc (d + 7) 186 26 [(0, .inr (.inr 150))] [.inl (q46.1)] (px_G1, q46.2) _
    cases h
    exact px_D_iret rfl rfl ⟨rfl, rfl⟩
  · intro s out h
    refine px_D_st 2 (ip1 := 110) (ls1 := [(0, .inr (.inr 150))]) (st1 := [.inl (1), .inr (.inr 150)]) (h1 := (px_G1, s)) rfl ?_
    refine px_D_call (as := [.inr (.inr 150), .inl (1)]) (rest := []) rfl rfl rfl rfl ?_
    obtain ⟨q47, hq47, h⟩ := Option.bind_eq_some_iff.mp h
    refine px_D_mono (c_M_errs (d := d + 6) hq47) ?_
    rintro _ _ ⟨rfl, rfl⟩
    show px_D sc (d + 7) 186 111 [(0, .inr (.inr 150))] [.inl (q47.1)] (px_G1, q47.2) _
    cases h
    exact px_D_iret rfl rfl ⟨rfl, rfl⟩

def f_M_isLineWord (s : px_Z) : Int := if (s 150 26) = (0) then f_M_isWord s 0 else (if (f_M_isWord s 1) = (0) then (if (f_M_isWord s 2) = (0) then (if (f_M_isWord s 3) = (0) then 0 else 1) else 1) else 1)
set_option maxHeartbeats 4000000 in
set_option maxRecDepth 100000 in
theorem c_M_isLineWord {sc : List Int} {d : Nat} {s : px_Z} {out : Int} (h : f_M_isLineWord s  = out) : px_D sc (d + 1) 187 0 [(0, .inr (.inr 150))] [] (px_G1, s) (px_Qp s out) := by
  unfold f_M_isLineWord at h
  refine px_D_st 2 (ip1 := 2) (ls1 := [(0, .inr (.inr 150))]) (st1 := [.inl (s 150 26)]) (h1 := (px_G1, s)) rfl ?_
  refine px_D_ifc rfl (fun hc => ?_) (fun hc => ?_)
  · have hc1 : ¬ ((s 150 26) = (0)) := of_decide_eq_true hc
    rw [if_neg hc1] at h
    refine px_D_st 2 (ip1 := 9) (ls1 := [(0, .inr (.inr 150))]) (st1 := [.inl (1), .inr (.inr 150)]) (h1 := (px_G1, s)) rfl ?_
    refine px_D_call (as := [.inr (.inr 150), .inl (1)]) (rest := []) rfl rfl rfl rfl ?_
    refine px_D_mono (c_M_isWord (d := d + 0) rfl) ?_
    rintro _ _ ⟨rfl, rfl⟩
    show px_D sc (d + 1) 187 10 [(0, .inr (.inr 150))] [.inl (f_M_isWord s 1)] (px_G1, s) _
    refine px_D_ifc rfl (fun hc => ?_) (fun hc => ?_)
    · have hc2 : ¬ ((f_M_isWord s 1) = (0)) := of_decide_eq_true hc
      rw [if_neg hc2] at h
      refine px_D_st 2 (ip1 := 22) (ls1 := [(0, .inr (.inr 150))]) (st1 := [.inl (1)]) (h1 := (px_G1, s)) rfl ?_
      subst h
      exact px_D_iret rfl rfl ⟨rfl, rfl⟩
    · have hc2 : (f_M_isWord s 1) = (0) := Decidable.of_not_not (of_decide_eq_false hc)
      rw [if_pos hc2] at h
      refine px_D_st 2 (ip1 := 13) (ls1 := [(0, .inr (.inr 150))]) (st1 := [.inl (2), .inr (.inr 150)]) (h1 := (px_G1, s)) rfl ?_
      refine px_D_call (as := [.inr (.inr 150), .inl (2)]) (rest := []) rfl rfl rfl rfl ?_
      refine px_D_mono (c_M_isWord (d := d + 0) rfl) ?_
      rintro _ _ ⟨rfl, rfl⟩
      show px_D sc (d + 1) 187 14 [(0, .inr (.inr 150))] [.inl (f_M_isWord s 2)] (px_G1, s) _
      refine px_D_ifc rfl (fun hc => ?_) (fun hc => ?_)
      · have hc3 : ¬ ((f_M_isWord s 2) = (0)) := of_decide_eq_true hc
        rw [if_neg hc3] at h
        refine px_D_st 2 (ip1 := 22) (ls1 := [(0, .inr (.inr 150))]) (st1 := [.inl (1)]) (h1 := (px_G1, s)) rfl ?_
        subst h
        exact px_D_iret rfl rfl ⟨rfl, rfl⟩
      · have hc3 : (f_M_isWord s 2) = (0) := Decidable.of_not_not (of_decide_eq_false hc)
        rw [if_pos hc3] at h
        refine px_D_st 2 (ip1 := 17) (ls1 := [(0, .inr (.inr 150))]) (st1 := [.inl (3), .inr (.inr 150)]) (h1 := (px_G1, s)) rfl ?_
        refine px_D_call (as := [.inr (.inr 150), .inl (3)]) (rest := []) rfl rfl rfl rfl ?_
        refine px_D_mono (c_M_isWord (d := d + 0) rfl) ?_
        rintro _ _ ⟨rfl, rfl⟩
        show px_D sc (d + 1) 187 18 [(0, .inr (.inr 150))] [.inl (f_M_isWord s 3)] (px_G1, s) _
        refine px_D_ifc rfl (fun hc => ?_) (fun hc => ?_)
        · have hc4 : (f_M_isWord s 3) = (0) := of_decide_eq_true hc
          rw [if_pos hc4] at h
          refine px_D_st 1 (ip1 := 22) (ls1 := [(0, .inr (.inr 150))]) (st1 := [.inl (0)]) (h1 := (px_G1, s)) rfl ?_
          subst h
          exact px_D_iret rfl rfl ⟨rfl, rfl⟩
        · have hc4 : ¬ ((f_M_isWord s 3) = (0)) := of_decide_eq_false hc
          rw [if_neg hc4] at h
          refine px_D_st 2 (ip1 := 22) (ls1 := [(0, .inr (.inr 150))]) (st1 := [.inl (1)]) (h1 := (px_G1, s)) rfl ?_
          subst h
          exact px_D_iret rfl rfl ⟨rfl, rfl⟩
  · have hc1 : (s 150 26) = (0) := Decidable.of_not_not (of_decide_eq_false hc)
    rw [if_pos hc1] at h
    refine px_D_st 2 (ip1 := 5) (ls1 := [(0, .inr (.inr 150))]) (st1 := [.inl (0), .inr (.inr 150)]) (h1 := (px_G1, s)) rfl ?_
    refine px_D_call (as := [.inr (.inr 150), .inl (0)]) (rest := []) rfl rfl rfl rfl ?_
    refine px_D_mono (c_M_isWord (d := d + 0) rfl) ?_
    rintro _ _ ⟨rfl, rfl⟩
    show px_D sc (d + 1) 187 6 [(0, .inr (.inr 150))] [.inl (f_M_isWord s 0)] (px_G1, s) _
    refine px_D_st 1 (ip1 := 22) (ls1 := [(0, .inr (.inr 150))]) (st1 := [.inl (f_M_isWord s 0)]) (h1 := (px_G1, s)) rfl ?_
    subst h
    exact px_D_iret rfl (px_bz (bz_M_isWord)) ⟨rfl, rfl⟩
set_option maxHeartbeats 4000000 in
set_option maxRecDepth 100000 in
theorem bz_M_isLineWord {s : px_Z} : f_M_isLineWord s  = 0 ∨ f_M_isLineWord s  = 1 := by
  unfold f_M_isLineWord
  repeat' split
  all_goals first | exact Or.inl rfl | exact Or.inr rfl | exact Or.inl rfl | exact bz_M_isWord

def l_M_readLaw_2 (k8 : px_Z → Option (Int × px_Z)) (k64 : px_Z → Option (Int × px_Z)) (k75 : px_Z → Int → Option (Int × px_Z)) : Nat → px_Z → Int → Option (Int × px_Z)
  | 0, _, _ => none
  | n + 1, s, x1 => if (f_M_isLineWord s ) = (0) then k75 s x1 else (if (x1) = (16) then k8 s  else (if 0 ≤ (px_wr (32 + x1)) ∧ (px_wr (32 + x1)) < 48 then (f_M_reads (px_up s 159 (px_wr (32 + x1)).toNat (s 150 17)) ).bind (fun q4 => if 0 ≤ (px_wr (32 + x1)) ∧ (px_wr (32 + x1)) < 48 then (f_M_readSum (px_up q4 160 (px_wr (32 + x1)).toNat (q4 150 27)) ).bind (fun q6 => if (q6.1) = ((-1)) then some (((-1), q6.2)) else (if 0 ≤ (px_wr (32 + x1)) ∧ (px_wr (32 + x1)) < 48 then if (f_M_isWord (px_up q6.2 161 (px_wr (32 + x1)).toNat (q6.2 150 27)) 4) = (0) then (if 0 ≤ (px_wr (32 + x1)) ∧ (px_wr (32 + x1)) < 48 then if (f_M_isSign (px_up (px_up q6.2 161 (px_wr (32 + x1)).toNat (q6.2 150 27)) 162 (px_wr (32 + x1)).toNat ((px_up q6.2 161 (px_wr (32 + x1)).toNat (q6.2 150 27)) 150 27)) 59) = (0) then k64 (px_up (px_up q6.2 161 (px_wr (32 + x1)).toNat (q6.2 150 27)) 162 (px_wr (32 + x1)).toNat ((px_up q6.2 161 (px_wr (32 + x1)).toNat (q6.2 150 27)) 150 27))  else (f_M_reads (px_up (px_up q6.2 161 (px_wr (32 + x1)).toNat (q6.2 150 27)) 162 (px_wr (32 + x1)).toNat ((px_up q6.2 161 (px_wr (32 + x1)).toNat (q6.2 150 27)) 150 27)) ).bind (fun q12 => l_M_readLaw_2 k8 k64 k75 n q12 (px_wr (x1 + 1))) else none) else (f_M_reads (px_up q6.2 161 (px_wr (32 + x1)).toNat (q6.2 150 27)) ).bind (fun q13 => (f_M_readAny q13 ).bind (fun q14 => if (q14.1) = ((-1)) then some (((-1), q14.2)) else (if 0 ≤ (px_wr (32 + x1)) ∧ (px_wr (32 + x1)) < 48 then if (f_M_isSign (px_up q14.2 162 (px_wr (32 + x1)).toNat (q14.2 150 27)) 59) = (0) then k64 (px_up q14.2 162 (px_wr (32 + x1)).toNat (q14.2 150 27))  else (f_M_reads (px_up q14.2 162 (px_wr (32 + x1)).toNat (q14.2 150 27)) ).bind (fun q18 => l_M_readLaw_2 k8 k64 k75 n q18 (px_wr (x1 + 1))) else none))) else none)) else none) else none))
set_option maxHeartbeats 4000000 in
set_option maxRecDepth 100000 in
theorem cl_M_readLaw_2 {sc : List Int} {d : Nat} {k8 : px_Z → Option (Int × px_Z)} {k64 : px_Z → Option (Int × px_Z)} {k75 : px_Z → Int → Option (Int × px_Z)}  (hk8 : ∀ (s : px_Z) (out : Int × px_Z), k8 s  = some out → px_D sc (d + 8) 188 8 [(0, .inr (.inr 150))] [] (px_G1, s) (px_Qi out)) (hk64 : ∀ (s : px_Z) (out : Int × px_Z), k64 s  = some out → px_D sc (d + 8) 188 64 [(0, .inr (.inr 150))] [] (px_G1, s) (px_Qi out)) (hk75 : ∀ (s : px_Z) (y1 : Int) (out : Int × px_Z), k75 s y1 = some out → px_D sc (d + 8) 188 75 [(0, .inr (.inr 150)), (1, .inl (y1))] [] (px_G1, s) (px_Qi out)) : ∀ (n : Nat) (s : px_Z) (x1 : Int) (out : Int × px_Z), l_M_readLaw_2 k8 k64 k75 n s x1 = some out → px_D sc (d + 8) 188 2 [(0, .inr (.inr 150)), (1, .inl (x1))] [] (px_G1, s) (px_Qi out) := by
  intro n
  induction n with
  | zero => intro s x1 out h; cases h
  | succ n ih =>
    intro s x1 out h
    rw [l_M_readLaw_2] at h
    refine px_D_st 1 (ip1 := 3) (ls1 := [(0, .inr (.inr 150)), (1, .inl (x1))]) (st1 := [.inr (.inr 150)]) (h1 := (px_G1, s)) rfl ?_
    refine px_D_call (as := [.inr (.inr 150)]) (rest := []) rfl rfl rfl rfl ?_
    refine px_D_mono (c_M_isLineWord (d := d + 6) rfl) ?_
    rintro _ _ ⟨rfl, rfl⟩
    show px_D sc (d + 8) 188 4 [(0, .inr (.inr 150)), (1, .inl (x1))] [.inl (f_M_isLineWord s )] (px_G1, s) _
    refine px_D_ifc rfl (fun hc => ?_) (fun hc => ?_)
    · have hc1 : (f_M_isLineWord s ) = (0) := of_decide_eq_true hc
      rw [if_pos hc1] at h
      refine px_D_ls [(0, .inr (.inr 150)), (1, .inl (x1))] rfl rfl (List.forall_mem_cons.mpr ⟨rfl, List.forall_mem_cons.mpr ⟨rfl, fun _ h => absurd h List.not_mem_nil⟩⟩) ?_
      exact hk75 _ _ _ h
    · have hc1 : ¬ ((f_M_isLineWord s ) = (0)) := of_decide_eq_false hc
      rw [if_neg hc1] at h
      refine px_D_st 2 (ip1 := 7) (ls1 := [(0, .inr (.inr 150)), (1, .inl (x1))]) (st1 := [.inl (16), .inl (x1)]) (h1 := (px_G1, s)) rfl ?_
      refine px_D_icmp rfl (fun hc => ?_) (fun hc => ?_)
      · have hc2 : ¬ ((x1) = (16)) := of_decide_eq_true hc
        rw [if_neg hc2] at h
        refine px_D_st 9 (ip1 := 21) (ls1 := [(2, .inl (px_wr (32 + x1))), (0, .inr (.inr 150)), (1, .inl (x1))]) (st1 := [.inl (s 150 17), .inl (px_wr (32 + x1)), .inr (.inr 159)]) (h1 := (px_G1, s)) rfl ?_
        by_cases hc3 : 0 ≤ (px_wr (32 + x1)) ∧ (px_wr (32 + x1)) < 48
        case neg => rw [if_neg hc3] at h; cases h
        rw [if_pos hc3] at h
        refine px_D_iast (k := 154) (n := 48) rfl rfl hc3 ?_
        refine px_D_st 1 (ip1 := 23) (ls1 := [(2, .inl (px_wr (32 + x1))), (0, .inr (.inr 150)), (1, .inl (x1))]) (st1 := [.inr (.inr 150)]) (h1 := (px_G1, px_up s 159 (px_wr (32 + x1)).toNat (s 150 17))) rfl ?_
        refine px_D_call (as := [.inr (.inr 150)]) (rest := []) rfl rfl rfl rfl ?_
        obtain ⟨q4, hq4, h⟩ := Option.bind_eq_some_iff.mp h
        refine px_D_mono (c_M_reads (d := d + 5) hq4) ?_
        rintro _ _ ⟨rfl, rfl⟩
        show px_D sc (d + 8) 188 24 [(2, .inl (px_wr (32 + x1))), (0, .inr (.inr 150)), (1, .inl (x1))] [] (px_G1, q4) _
        refine px_D_st 5 (ip1 := 29) (ls1 := [(2, .inl (px_wr (32 + x1))), (0, .inr (.inr 150)), (1, .inl (x1))]) (st1 := [.inl (q4 150 27), .inl (px_wr (32 + x1)), .inr (.inr 160)]) (h1 := (px_G1, q4)) rfl ?_
        by_cases hc5 : 0 ≤ (px_wr (32 + x1)) ∧ (px_wr (32 + x1)) < 48
        case neg => rw [if_neg hc5] at h; cases h
        rw [if_pos hc5] at h
        refine px_D_iast (k := 155) (n := 48) rfl rfl hc5 ?_
        refine px_D_st 1 (ip1 := 31) (ls1 := [(2, .inl (px_wr (32 + x1))), (0, .inr (.inr 150)), (1, .inl (x1))]) (st1 := [.inr (.inr 150)]) (h1 := (px_G1, px_up q4 160 (px_wr (32 + x1)).toNat (q4 150 27))) rfl ?_
        refine px_D_call (as := [.inr (.inr 150)]) (rest := []) rfl rfl rfl rfl ?_
        obtain ⟨q6, hq6, h⟩ := Option.bind_eq_some_iff.mp h
        refine px_D_mono (c_M_readSum (d := d + 2) hq6) ?_
        rintro _ _ ⟨rfl, rfl⟩
        show px_D sc (d + 8) 188 32 [(2, .inl (px_wr (32 + x1))), (0, .inr (.inr 150)), (1, .inl (x1))] [.inl (q6.1)] (px_G1, q6.2) _
        refine px_D_st 1 (ip1 := 33) (ls1 := [(2, .inl (px_wr (32 + x1))), (0, .inr (.inr 150)), (1, .inl (x1))]) (st1 := [.inl ((-1)), .inl (q6.1)]) (h1 := (px_G1, q6.2)) rfl ?_
        refine px_D_icmp rfl (fun hc => ?_) (fun hc => ?_)
        · have hc7 : ¬ ((q6.1) = ((-1))) := of_decide_eq_true hc
          rw [if_neg hc7] at h
          refine px_D_st 5 (ip1 := 41) (ls1 := [(2, .inl (px_wr (32 + x1))), (0, .inr (.inr 150)), (1, .inl (x1))]) (st1 := [.inl (q6.2 150 27), .inl (px_wr (32 + x1)), .inr (.inr 161)]) (h1 := (px_G1, q6.2)) rfl ?_
          by_cases hc8 : 0 ≤ (px_wr (32 + x1)) ∧ (px_wr (32 + x1)) < 48
          case neg => rw [if_neg hc8] at h; cases h
          rw [if_pos hc8] at h
          refine px_D_iast (k := 156) (n := 48) rfl rfl hc8 ?_
          refine px_D_st 2 (ip1 := 44) (ls1 := [(2, .inl (px_wr (32 + x1))), (0, .inr (.inr 150)), (1, .inl (x1))]) (st1 := [.inl (4), .inr (.inr 150)]) (h1 := (px_G1, px_up q6.2 161 (px_wr (32 + x1)).toNat (q6.2 150 27))) rfl ?_
          refine px_D_call (as := [.inr (.inr 150), .inl (4)]) (rest := []) rfl rfl rfl rfl ?_
          refine px_D_mono (c_M_isWord (d := d + 7) rfl) ?_
          rintro _ _ ⟨rfl, rfl⟩
          show px_D sc (d + 8) 188 45 [(2, .inl (px_wr (32 + x1))), (0, .inr (.inr 150)), (1, .inl (x1))] [.inl (f_M_isWord (px_up q6.2 161 (px_wr (32 + x1)).toNat (q6.2 150 27)) 4)] (px_G1, px_up q6.2 161 (px_wr (32 + x1)).toNat (q6.2 150 27)) _
          refine px_D_ifc rfl (fun hc => ?_) (fun hc => ?_)
          · have hc9 : (f_M_isWord (px_up q6.2 161 (px_wr (32 + x1)).toNat (q6.2 150 27)) 4) = (0) := of_decide_eq_true hc
            rw [if_pos hc9] at h
            refine px_D_st 5 (ip1 := 59) (ls1 := [(2, .inl (px_wr (32 + x1))), (0, .inr (.inr 150)), (1, .inl (x1))]) (st1 := [.inl ((px_up q6.2 161 (px_wr (32 + x1)).toNat (q6.2 150 27)) 150 27), .inl (px_wr (32 + x1)), .inr (.inr 162)]) (h1 := (px_G1, px_up q6.2 161 (px_wr (32 + x1)).toNat (q6.2 150 27))) rfl ?_
            by_cases hc10 : 0 ≤ (px_wr (32 + x1)) ∧ (px_wr (32 + x1)) < 48
            case neg => rw [if_neg hc10] at h; cases h
            rw [if_pos hc10] at h
            refine px_D_iast (k := 157) (n := 48) rfl rfl hc10 ?_
            refine px_D_st 2 (ip1 := 62) (ls1 := [(2, .inl (px_wr (32 + x1))), (0, .inr (.inr 150)), (1, .inl (x1))]) (st1 := [.inl (59), .inr (.inr 150)]) (h1 := (px_G1, px_up (px_up q6.2 161 (px_wr (32 + x1)).toNat (q6.2 150 27)) 162 (px_wr (32 + x1)).toNat ((px_up q6.2 161 (px_wr (32 + x1)).toNat (q6.2 150 27)) 150 27))) rfl ?_
            refine px_D_call (as := [.inr (.inr 150), .inl (59)]) (rest := []) rfl rfl rfl rfl ?_
            refine px_D_mono (c_M_isSign (d := d + 7) rfl) ?_
            rintro _ _ ⟨rfl, rfl⟩
            show px_D sc (d + 8) 188 63 [(2, .inl (px_wr (32 + x1))), (0, .inr (.inr 150)), (1, .inl (x1))] [.inl (f_M_isSign (px_up (px_up q6.2 161 (px_wr (32 + x1)).toNat (q6.2 150 27)) 162 (px_wr (32 + x1)).toNat ((px_up q6.2 161 (px_wr (32 + x1)).toNat (q6.2 150 27)) 150 27)) 59)] (px_G1, px_up (px_up q6.2 161 (px_wr (32 + x1)).toNat (q6.2 150 27)) 162 (px_wr (32 + x1)).toNat ((px_up q6.2 161 (px_wr (32 + x1)).toNat (q6.2 150 27)) 150 27)) _
            refine px_D_ifc rfl (fun hc => ?_) (fun hc => ?_)
            · have hc11 : ¬ ((f_M_isSign (px_up (px_up q6.2 161 (px_wr (32 + x1)).toNat (q6.2 150 27)) 162 (px_wr (32 + x1)).toNat ((px_up q6.2 161 (px_wr (32 + x1)).toNat (q6.2 150 27)) 150 27)) 59) = (0)) := of_decide_eq_true hc
              rw [if_neg hc11] at h
              refine px_D_st 1 (ip1 := 69) (ls1 := [(2, .inl (px_wr (32 + x1))), (0, .inr (.inr 150)), (1, .inl (x1))]) (st1 := [.inr (.inr 150)]) (h1 := (px_G1, px_up (px_up q6.2 161 (px_wr (32 + x1)).toNat (q6.2 150 27)) 162 (px_wr (32 + x1)).toNat ((px_up q6.2 161 (px_wr (32 + x1)).toNat (q6.2 150 27)) 150 27))) rfl ?_
              refine px_D_call (as := [.inr (.inr 150)]) (rest := []) rfl rfl rfl rfl ?_
              obtain ⟨q12, hq12, h⟩ := Option.bind_eq_some_iff.mp h
              refine px_D_mono (c_M_reads (d := d + 5) hq12) ?_
              rintro _ _ ⟨rfl, rfl⟩
              show px_D sc (d + 8) 188 70 [(2, .inl (px_wr (32 + x1))), (0, .inr (.inr 150)), (1, .inl (x1))] [] (px_G1, q12) _
              refine px_D_st 5 (ip1 := 2) (ls1 := [(1, .inl (px_wr (x1 + 1))), (2, .inl (px_wr (32 + x1))), (0, .inr (.inr 150))]) (st1 := []) (h1 := (px_G1, q12)) rfl ?_
              refine px_D_ls [(0, .inr (.inr 150)), (1, .inl (px_wr (x1 + 1)))] rfl rfl (List.forall_mem_cons.mpr ⟨rfl, List.forall_mem_cons.mpr ⟨rfl, fun _ h => absurd h List.not_mem_nil⟩⟩) ?_
              exact ih _ _ _ h
            · have hc11 : (f_M_isSign (px_up (px_up q6.2 161 (px_wr (32 + x1)).toNat (q6.2 150 27)) 162 (px_wr (32 + x1)).toNat ((px_up q6.2 161 (px_wr (32 + x1)).toNat (q6.2 150 27)) 150 27)) 59) = (0) := Decidable.of_not_not (of_decide_eq_false hc)
              rw [if_pos hc11] at h
              refine px_D_ls [(0, .inr (.inr 150))] rfl rfl (List.forall_mem_cons.mpr ⟨rfl, fun _ h => absurd h List.not_mem_nil⟩) ?_
              exact hk64 _ _ h
          · have hc9 : ¬ ((f_M_isWord (px_up q6.2 161 (px_wr (32 + x1)).toNat (q6.2 150 27)) 4) = (0)) := of_decide_eq_false hc
            rw [if_neg hc9] at h
            refine px_D_st 1 (ip1 := 47) (ls1 := [(2, .inl (px_wr (32 + x1))), (0, .inr (.inr 150)), (1, .inl (x1))]) (st1 := [.inr (.inr 150)]) (h1 := (px_G1, px_up q6.2 161 (px_wr (32 + x1)).toNat (q6.2 150 27))) rfl ?_
            refine px_D_call (as := [.inr (.inr 150)]) (rest := []) rfl rfl rfl rfl ?_
            obtain ⟨q13, hq13, h⟩ := Option.bind_eq_some_iff.mp h
            refine px_D_mono (c_M_reads (d := d + 5) hq13) ?_
            rintro _ _ ⟨rfl, rfl⟩
            show px_D sc (d + 8) 188 48 [(2, .inl (px_wr (32 + x1))), (0, .inr (.inr 150)), (1, .inl (x1))] [] (px_G1, q13) _
            refine px_D_st 1 (ip1 := 49) (ls1 := [(2, .inl (px_wr (32 + x1))), (0, .inr (.inr 150)), (1, .inl (x1))]) (st1 := [.inr (.inr 150)]) (h1 := (px_G1, q13)) rfl ?_
            refine px_D_call (as := [.inr (.inr 150)]) (rest := []) rfl rfl rfl rfl ?_
            obtain ⟨q14, hq14, h⟩ := Option.bind_eq_some_iff.mp h
            refine px_D_mono (c_M_readAny (d := d + 0) hq14) ?_
            rintro _ _ ⟨rfl, rfl⟩
            show px_D sc (d + 8) 188 50 [(2, .inl (px_wr (32 + x1))), (0, .inr (.inr 150)), (1, .inl (x1))] [.inl (q14.1)] (px_G1, q14.2) _
            refine px_D_st 1 (ip1 := 51) (ls1 := [(2, .inl (px_wr (32 + x1))), (0, .inr (.inr 150)), (1, .inl (x1))]) (st1 := [.inl ((-1)), .inl (q14.1)]) (h1 := (px_G1, q14.2)) rfl ?_
            refine px_D_icmp rfl (fun hc => ?_) (fun hc => ?_)
            · have hc15 : ¬ ((q14.1) = ((-1))) := of_decide_eq_true hc
              rw [if_neg hc15] at h
              refine px_D_st 5 (ip1 := 59) (ls1 := [(2, .inl (px_wr (32 + x1))), (0, .inr (.inr 150)), (1, .inl (x1))]) (st1 := [.inl (q14.2 150 27), .inl (px_wr (32 + x1)), .inr (.inr 162)]) (h1 := (px_G1, q14.2)) rfl ?_
              by_cases hc16 : 0 ≤ (px_wr (32 + x1)) ∧ (px_wr (32 + x1)) < 48
              case neg => rw [if_neg hc16] at h; cases h
              rw [if_pos hc16] at h
              refine px_D_iast (k := 157) (n := 48) rfl rfl hc16 ?_
              refine px_D_st 2 (ip1 := 62) (ls1 := [(2, .inl (px_wr (32 + x1))), (0, .inr (.inr 150)), (1, .inl (x1))]) (st1 := [.inl (59), .inr (.inr 150)]) (h1 := (px_G1, px_up q14.2 162 (px_wr (32 + x1)).toNat (q14.2 150 27))) rfl ?_
              refine px_D_call (as := [.inr (.inr 150), .inl (59)]) (rest := []) rfl rfl rfl rfl ?_
              refine px_D_mono (c_M_isSign (d := d + 7) rfl) ?_
              rintro _ _ ⟨rfl, rfl⟩
              show px_D sc (d + 8) 188 63 [(2, .inl (px_wr (32 + x1))), (0, .inr (.inr 150)), (1, .inl (x1))] [.inl (f_M_isSign (px_up q14.2 162 (px_wr (32 + x1)).toNat (q14.2 150 27)) 59)] (px_G1, px_up q14.2 162 (px_wr (32 + x1)).toNat (q14.2 150 27)) _
              refine px_D_ifc rfl (fun hc => ?_) (fun hc => ?_)
              · have hc17 : ¬ ((f_M_isSign (px_up q14.2 162 (px_wr (32 + x1)).toNat (q14.2 150 27)) 59) = (0)) := of_decide_eq_true hc
                rw [if_neg hc17] at h
                refine px_D_st 1 (ip1 := 69) (ls1 := [(2, .inl (px_wr (32 + x1))), (0, .inr (.inr 150)), (1, .inl (x1))]) (st1 := [.inr (.inr 150)]) (h1 := (px_G1, px_up q14.2 162 (px_wr (32 + x1)).toNat (q14.2 150 27))) rfl ?_
                refine px_D_call (as := [.inr (.inr 150)]) (rest := []) rfl rfl rfl rfl ?_
                obtain ⟨q18, hq18, h⟩ := Option.bind_eq_some_iff.mp h
                refine px_D_mono (c_M_reads (d := d + 5) hq18) ?_
                rintro _ _ ⟨rfl, rfl⟩
                show px_D sc (d + 8) 188 70 [(2, .inl (px_wr (32 + x1))), (0, .inr (.inr 150)), (1, .inl (x1))] [] (px_G1, q18) _
                refine px_D_st 5 (ip1 := 2) (ls1 := [(1, .inl (px_wr (x1 + 1))), (2, .inl (px_wr (32 + x1))), (0, .inr (.inr 150))]) (st1 := []) (h1 := (px_G1, q18)) rfl ?_
                refine px_D_ls [(0, .inr (.inr 150)), (1, .inl (px_wr (x1 + 1)))] rfl rfl (List.forall_mem_cons.mpr ⟨rfl, List.forall_mem_cons.mpr ⟨rfl, fun _ h => absurd h List.not_mem_nil⟩⟩) ?_
                exact ih _ _ _ h
              · have hc17 : (f_M_isSign (px_up q14.2 162 (px_wr (32 + x1)).toNat (q14.2 150 27)) 59) = (0) := Decidable.of_not_not (of_decide_eq_false hc)
                rw [if_pos hc17] at h
                refine px_D_ls [(0, .inr (.inr 150))] rfl rfl (List.forall_mem_cons.mpr ⟨rfl, fun _ h => absurd h List.not_mem_nil⟩) ?_
                exact hk64 _ _ h
            · have hc15 : (q14.1) = ((-1)) := Decidable.of_not_not (of_decide_eq_false hc)
              rw [if_pos hc15] at h
              refine px_D_st 1 (ip1 := 53) (ls1 := [(2, .inl (px_wr (32 + x1))), (0, .inr (.inr 150)), (1, .inl (x1))]) (st1 := [.inl ((-1))]) (h1 := (px_G1, q14.2)) rfl ?_
              cases h
              exact px_D_iret rfl rfl ⟨rfl, rfl⟩
        · have hc7 : (q6.1) = ((-1)) := Decidable.of_not_not (of_decide_eq_false hc)
          rw [if_pos hc7] at h
          refine px_D_st 1 (ip1 := 35) (ls1 := [(2, .inl (px_wr (32 + x1))), (0, .inr (.inr 150)), (1, .inl (x1))]) (st1 := [.inl ((-1))]) (h1 := (px_G1, q6.2)) rfl ?_
          cases h
          exact px_D_iret rfl rfl ⟨rfl, rfl⟩
      · have hc2 : (x1) = (16) := Decidable.of_not_not (of_decide_eq_false hc)
        rw [if_pos hc2] at h
        refine px_D_ls [(0, .inr (.inr 150))] rfl rfl (List.forall_mem_cons.mpr ⟨rfl, fun _ h => absurd h List.not_mem_nil⟩) ?_
        exact hk8 _ _ h
def f_M_readLaw (s : px_Z) : Option (Int × px_Z) := l_M_readLaw_2 (fun s => (f_M_errs s 3).bind (fun q19 => some (q19.1, q19.2))) (fun s => (f_M_errs s 1).bind (fun q20 => some (q20.1, q20.2))) (fun s x1 => if (s 150 16) = (0) then some (x1, s) else (f_M_errs s 1).bind (fun q22 => some (q22.1, q22.2))) px_big s 0
set_option maxHeartbeats 4000000 in
set_option maxRecDepth 100000 in
theorem c_M_readLaw {sc : List Int} {d : Nat} {s : px_Z} {out : Int × px_Z} (h : f_M_readLaw s  = some out) : px_D sc (d + 8) 188 0 [(0, .inr (.inr 150))] [] (px_G1, s) (px_Qi out) := by
  unfold f_M_readLaw at h
  refine px_D_st 2 (ip1 := 2) (ls1 := [(1, .inl (0)), (0, .inr (.inr 150))]) (st1 := []) (h1 := (px_G1, s)) rfl ?_
  refine px_D_ls [(0, .inr (.inr 150)), (1, .inl (0))] rfl rfl (List.forall_mem_cons.mpr ⟨rfl, List.forall_mem_cons.mpr ⟨rfl, fun _ h => absurd h List.not_mem_nil⟩⟩) ?_
  refine cl_M_readLaw_2 ?_ ?_ ?_ px_big _ _ _ h
  · intro s out h
    refine px_D_st 2 (ip1 := 10) (ls1 := [(0, .inr (.inr 150))]) (st1 := [.inl (3), .inr (.inr 150)]) (h1 := (px_G1, s)) rfl ?_
    refine px_D_call (as := [.inr (.inr 150), .inl (3)]) (rest := []) rfl rfl rfl rfl ?_
    obtain ⟨q19, hq19, h⟩ := Option.bind_eq_some_iff.mp h
    refine px_D_mono (c_M_errs (d := d + 7) hq19) ?_
    rintro _ _ ⟨rfl, rfl⟩
    show px_D sc (d + 8) 188 11 [(0, .inr (.inr 150))] [.inl (q19.1)] (px_G1, q19.2) _
    cases h
    exact px_D_iret rfl rfl ⟨rfl, rfl⟩
  · intro s out h
    refine px_D_st 2 (ip1 := 66) (ls1 := [(0, .inr (.inr 150))]) (st1 := [.inl (1), .inr (.inr 150)]) (h1 := (px_G1, s)) rfl ?_
    refine px_D_call (as := [.inr (.inr 150), .inl (1)]) (rest := []) rfl rfl rfl rfl ?_
    obtain ⟨q20, hq20, h⟩ := Option.bind_eq_some_iff.mp h
    refine px_D_mono (c_M_errs (d := d + 7) hq20) ?_
    rintro _ _ ⟨rfl, rfl⟩
    show px_D sc (d + 8) 188 67 [(0, .inr (.inr 150))] [.inl (q20.1)] (px_G1, q20.2) _
    cases h
    exact px_D_iret rfl rfl ⟨rfl, rfl⟩
  · intro s x1 out h
    refine px_D_st 2 (ip1 := 77) (ls1 := [(0, .inr (.inr 150)), (1, .inl (x1))]) (st1 := [.inl (s 150 16)]) (h1 := (px_G1, s)) rfl ?_
    refine px_D_ifc rfl (fun hc => ?_) (fun hc => ?_)
    · have hc21 : ¬ ((s 150 16) = (0)) := of_decide_eq_true hc
      rw [if_neg hc21] at h
      refine px_D_st 2 (ip1 := 82) (ls1 := [(0, .inr (.inr 150)), (1, .inl (x1))]) (st1 := [.inl (1), .inr (.inr 150)]) (h1 := (px_G1, s)) rfl ?_
      refine px_D_call (as := [.inr (.inr 150), .inl (1)]) (rest := []) rfl rfl rfl rfl ?_
      obtain ⟨q22, hq22, h⟩ := Option.bind_eq_some_iff.mp h
      refine px_D_mono (c_M_errs (d := d + 7) hq22) ?_
      rintro _ _ ⟨rfl, rfl⟩
      show px_D sc (d + 8) 188 83 [(0, .inr (.inr 150)), (1, .inl (x1))] [.inl (q22.1)] (px_G1, q22.2) _
      cases h
      exact px_D_iret rfl rfl ⟨rfl, rfl⟩
    · have hc21 : (s 150 16) = (0) := Decidable.of_not_not (of_decide_eq_false hc)
      rw [if_pos hc21] at h
      refine px_D_st 2 (ip1 := 83) (ls1 := [(0, .inr (.inr 150)), (1, .inl (x1))]) (st1 := [.inl (x1)]) (h1 := (px_G1, s)) rfl ?_
      cases h
      exact px_D_iret rfl rfl ⟨rfl, rfl⟩

def l_M_takesLaw_2 (k67 : px_Z → Int → Option (px_Z)) : Nat → px_Z → Int → Int → Option (px_Z)
  | 0, _, _, _ => none
  | n + 1, s, x1, x2 => if (x1) ≤ (x2) then k67 s x1 else (if 0 ≤ (px_wr (32 + x2)) ∧ (px_wr (32 + x2)) < 48 then if 0 ≤ (px_wr ((px_wr (16 * (s 150 26))) + x2)) ∧ (px_wr ((px_wr (16 * (s 150 26))) + x2)) < 48 then if 0 ≤ (px_wr (32 + x2)) ∧ (px_wr (32 + x2)) < 48 then if 0 ≤ (px_wr ((px_wr (16 * ((px_up s 159 (px_wr ((px_wr (16 * (s 150 26))) + x2)).toNat (s 159 (px_wr (32 + x2)).toNat)) 150 26))) + x2)) ∧ (px_wr ((px_wr (16 * ((px_up s 159 (px_wr ((px_wr (16 * (s 150 26))) + x2)).toNat (s 159 (px_wr (32 + x2)).toNat)) 150 26))) + x2)) < 48 then if 0 ≤ (px_wr (32 + x2)) ∧ (px_wr (32 + x2)) < 48 then if 0 ≤ (px_wr ((px_wr (16 * ((px_up (px_up s 159 (px_wr ((px_wr (16 * (s 150 26))) + x2)).toNat (s 159 (px_wr (32 + x2)).toNat)) 160 (px_wr ((px_wr (16 * ((px_up s 159 (px_wr ((px_wr (16 * (s 150 26))) + x2)).toNat (s 159 (px_wr (32 + x2)).toNat)) 150 26))) + x2)).toNat ((px_up s 159 (px_wr ((px_wr (16 * (s 150 26))) + x2)).toNat (s 159 (px_wr (32 + x2)).toNat)) 160 (px_wr (32 + x2)).toNat)) 150 26))) + x2)) ∧ (px_wr ((px_wr (16 * ((px_up (px_up s 159 (px_wr ((px_wr (16 * (s 150 26))) + x2)).toNat (s 159 (px_wr (32 + x2)).toNat)) 160 (px_wr ((px_wr (16 * ((px_up s 159 (px_wr ((px_wr (16 * (s 150 26))) + x2)).toNat (s 159 (px_wr (32 + x2)).toNat)) 150 26))) + x2)).toNat ((px_up s 159 (px_wr ((px_wr (16 * (s 150 26))) + x2)).toNat (s 159 (px_wr (32 + x2)).toNat)) 160 (px_wr (32 + x2)).toNat)) 150 26))) + x2)) < 48 then if 0 ≤ (px_wr (32 + x2)) ∧ (px_wr (32 + x2)) < 48 then if 0 ≤ (px_wr ((px_wr (16 * ((px_up (px_up (px_up s 159 (px_wr ((px_wr (16 * (s 150 26))) + x2)).toNat (s 159 (px_wr (32 + x2)).toNat)) 160 (px_wr ((px_wr (16 * ((px_up s 159 (px_wr ((px_wr (16 * (s 150 26))) + x2)).toNat (s 159 (px_wr (32 + x2)).toNat)) 150 26))) + x2)).toNat ((px_up s 159 (px_wr ((px_wr (16 * (s 150 26))) + x2)).toNat (s 159 (px_wr (32 + x2)).toNat)) 160 (px_wr (32 + x2)).toNat)) 161 (px_wr ((px_wr (16 * ((px_up (px_up s 159 (px_wr ((px_wr (16 * (s 150 26))) + x2)).toNat (s 159 (px_wr (32 + x2)).toNat)) 160 (px_wr ((px_wr (16 * ((px_up s 159 (px_wr ((px_wr (16 * (s 150 26))) + x2)).toNat (s 159 (px_wr (32 + x2)).toNat)) 150 26))) + x2)).toNat ((px_up s 159 (px_wr ((px_wr (16 * (s 150 26))) + x2)).toNat (s 159 (px_wr (32 + x2)).toNat)) 160 (px_wr (32 + x2)).toNat)) 150 26))) + x2)).toNat ((px_up (px_up s 159 (px_wr ((px_wr (16 * (s 150 26))) + x2)).toNat (s 159 (px_wr (32 + x2)).toNat)) 160 (px_wr ((px_wr (16 * ((px_up s 159 (px_wr ((px_wr (16 * (s 150 26))) + x2)).toNat (s 159 (px_wr (32 + x2)).toNat)) 150 26))) + x2)).toNat ((px_up s 159 (px_wr ((px_wr (16 * (s 150 26))) + x2)).toNat (s 159 (px_wr (32 + x2)).toNat)) 160 (px_wr (32 + x2)).toNat)) 161 (px_wr (32 + x2)).toNat)) 150 26))) + x2)) ∧ (px_wr ((px_wr (16 * ((px_up (px_up (px_up s 159 (px_wr ((px_wr (16 * (s 150 26))) + x2)).toNat (s 159 (px_wr (32 + x2)).toNat)) 160 (px_wr ((px_wr (16 * ((px_up s 159 (px_wr ((px_wr (16 * (s 150 26))) + x2)).toNat (s 159 (px_wr (32 + x2)).toNat)) 150 26))) + x2)).toNat ((px_up s 159 (px_wr ((px_wr (16 * (s 150 26))) + x2)).toNat (s 159 (px_wr (32 + x2)).toNat)) 160 (px_wr (32 + x2)).toNat)) 161 (px_wr ((px_wr (16 * ((px_up (px_up s 159 (px_wr ((px_wr (16 * (s 150 26))) + x2)).toNat (s 159 (px_wr (32 + x2)).toNat)) 160 (px_wr ((px_wr (16 * ((px_up s 159 (px_wr ((px_wr (16 * (s 150 26))) + x2)).toNat (s 159 (px_wr (32 + x2)).toNat)) 150 26))) + x2)).toNat ((px_up s 159 (px_wr ((px_wr (16 * (s 150 26))) + x2)).toNat (s 159 (px_wr (32 + x2)).toNat)) 160 (px_wr (32 + x2)).toNat)) 150 26))) + x2)).toNat ((px_up (px_up s 159 (px_wr ((px_wr (16 * (s 150 26))) + x2)).toNat (s 159 (px_wr (32 + x2)).toNat)) 160 (px_wr ((px_wr (16 * ((px_up s 159 (px_wr ((px_wr (16 * (s 150 26))) + x2)).toNat (s 159 (px_wr (32 + x2)).toNat)) 150 26))) + x2)).toNat ((px_up s 159 (px_wr ((px_wr (16 * (s 150 26))) + x2)).toNat (s 159 (px_wr (32 + x2)).toNat)) 160 (px_wr (32 + x2)).toNat)) 161 (px_wr (32 + x2)).toNat)) 150 26))) + x2)) < 48 then l_M_takesLaw_2 k67 n (px_up (px_up (px_up (px_up s 159 (px_wr ((px_wr (16 * (s 150 26))) + x2)).toNat (s 159 (px_wr (32 + x2)).toNat)) 160 (px_wr ((px_wr (16 * ((px_up s 159 (px_wr ((px_wr (16 * (s 150 26))) + x2)).toNat (s 159 (px_wr (32 + x2)).toNat)) 150 26))) + x2)).toNat ((px_up s 159 (px_wr ((px_wr (16 * (s 150 26))) + x2)).toNat (s 159 (px_wr (32 + x2)).toNat)) 160 (px_wr (32 + x2)).toNat)) 161 (px_wr ((px_wr (16 * ((px_up (px_up s 159 (px_wr ((px_wr (16 * (s 150 26))) + x2)).toNat (s 159 (px_wr (32 + x2)).toNat)) 160 (px_wr ((px_wr (16 * ((px_up s 159 (px_wr ((px_wr (16 * (s 150 26))) + x2)).toNat (s 159 (px_wr (32 + x2)).toNat)) 150 26))) + x2)).toNat ((px_up s 159 (px_wr ((px_wr (16 * (s 150 26))) + x2)).toNat (s 159 (px_wr (32 + x2)).toNat)) 160 (px_wr (32 + x2)).toNat)) 150 26))) + x2)).toNat ((px_up (px_up s 159 (px_wr ((px_wr (16 * (s 150 26))) + x2)).toNat (s 159 (px_wr (32 + x2)).toNat)) 160 (px_wr ((px_wr (16 * ((px_up s 159 (px_wr ((px_wr (16 * (s 150 26))) + x2)).toNat (s 159 (px_wr (32 + x2)).toNat)) 150 26))) + x2)).toNat ((px_up s 159 (px_wr ((px_wr (16 * (s 150 26))) + x2)).toNat (s 159 (px_wr (32 + x2)).toNat)) 160 (px_wr (32 + x2)).toNat)) 161 (px_wr (32 + x2)).toNat)) 162 (px_wr ((px_wr (16 * ((px_up (px_up (px_up s 159 (px_wr ((px_wr (16 * (s 150 26))) + x2)).toNat (s 159 (px_wr (32 + x2)).toNat)) 160 (px_wr ((px_wr (16 * ((px_up s 159 (px_wr ((px_wr (16 * (s 150 26))) + x2)).toNat (s 159 (px_wr (32 + x2)).toNat)) 150 26))) + x2)).toNat ((px_up s 159 (px_wr ((px_wr (16 * (s 150 26))) + x2)).toNat (s 159 (px_wr (32 + x2)).toNat)) 160 (px_wr (32 + x2)).toNat)) 161 (px_wr ((px_wr (16 * ((px_up (px_up s 159 (px_wr ((px_wr (16 * (s 150 26))) + x2)).toNat (s 159 (px_wr (32 + x2)).toNat)) 160 (px_wr ((px_wr (16 * ((px_up s 159 (px_wr ((px_wr (16 * (s 150 26))) + x2)).toNat (s 159 (px_wr (32 + x2)).toNat)) 150 26))) + x2)).toNat ((px_up s 159 (px_wr ((px_wr (16 * (s 150 26))) + x2)).toNat (s 159 (px_wr (32 + x2)).toNat)) 160 (px_wr (32 + x2)).toNat)) 150 26))) + x2)).toNat ((px_up (px_up s 159 (px_wr ((px_wr (16 * (s 150 26))) + x2)).toNat (s 159 (px_wr (32 + x2)).toNat)) 160 (px_wr ((px_wr (16 * ((px_up s 159 (px_wr ((px_wr (16 * (s 150 26))) + x2)).toNat (s 159 (px_wr (32 + x2)).toNat)) 150 26))) + x2)).toNat ((px_up s 159 (px_wr ((px_wr (16 * (s 150 26))) + x2)).toNat (s 159 (px_wr (32 + x2)).toNat)) 160 (px_wr (32 + x2)).toNat)) 161 (px_wr (32 + x2)).toNat)) 150 26))) + x2)).toNat ((px_up (px_up (px_up s 159 (px_wr ((px_wr (16 * (s 150 26))) + x2)).toNat (s 159 (px_wr (32 + x2)).toNat)) 160 (px_wr ((px_wr (16 * ((px_up s 159 (px_wr ((px_wr (16 * (s 150 26))) + x2)).toNat (s 159 (px_wr (32 + x2)).toNat)) 150 26))) + x2)).toNat ((px_up s 159 (px_wr ((px_wr (16 * (s 150 26))) + x2)).toNat (s 159 (px_wr (32 + x2)).toNat)) 160 (px_wr (32 + x2)).toNat)) 161 (px_wr ((px_wr (16 * ((px_up (px_up s 159 (px_wr ((px_wr (16 * (s 150 26))) + x2)).toNat (s 159 (px_wr (32 + x2)).toNat)) 160 (px_wr ((px_wr (16 * ((px_up s 159 (px_wr ((px_wr (16 * (s 150 26))) + x2)).toNat (s 159 (px_wr (32 + x2)).toNat)) 150 26))) + x2)).toNat ((px_up s 159 (px_wr ((px_wr (16 * (s 150 26))) + x2)).toNat (s 159 (px_wr (32 + x2)).toNat)) 160 (px_wr (32 + x2)).toNat)) 150 26))) + x2)).toNat ((px_up (px_up s 159 (px_wr ((px_wr (16 * (s 150 26))) + x2)).toNat (s 159 (px_wr (32 + x2)).toNat)) 160 (px_wr ((px_wr (16 * ((px_up s 159 (px_wr ((px_wr (16 * (s 150 26))) + x2)).toNat (s 159 (px_wr (32 + x2)).toNat)) 150 26))) + x2)).toNat ((px_up s 159 (px_wr ((px_wr (16 * (s 150 26))) + x2)).toNat (s 159 (px_wr (32 + x2)).toNat)) 160 (px_wr (32 + x2)).toNat)) 161 (px_wr (32 + x2)).toNat)) 162 (px_wr (32 + x2)).toNat)) x1 (px_wr (x2 + 1)) else none else none else none else none else none else none else none else none)
set_option maxHeartbeats 4000000 in
set_option maxRecDepth 100000 in
theorem cl_M_takesLaw_2 {sc : List Int} {d : Nat} {k67 : px_Z → Int → Option (px_Z)}  (hk67 : ∀ (s : px_Z) (y1 : Int) (out : px_Z), k67 s y1 = some out → px_D sc (d + 0) 189 67 [(0, .inr (.inr 150)), (1, .inl (y1))] [] (px_G1, s) (px_Qv out)) : ∀ (n : Nat) (s : px_Z) (x1 : Int) (x2 : Int) (out : px_Z), l_M_takesLaw_2 k67 n s x1 x2 = some out → px_D sc (d + 0) 189 2 [(0, .inr (.inr 150)), (1, .inl (x1)), (2, .inl (x2))] [] (px_G1, s) (px_Qv out) := by
  intro n
  induction n with
  | zero => intro s x1 x2 out h; cases h
  | succ n ih =>
    intro s x1 x2 out h
    rw [l_M_takesLaw_2] at h
    refine px_D_st 2 (ip1 := 4) (ls1 := [(0, .inr (.inr 150)), (1, .inl (x1)), (2, .inl (x2))]) (st1 := [.inl (x1), .inl (x2)]) (h1 := (px_G1, s)) rfl ?_
    refine px_D_icmp rfl (fun hc => ?_) (fun hc => ?_)
    · have hc1 : (x1) ≤ (x2) := of_decide_eq_true hc
      rw [if_pos hc1] at h
      refine px_D_ls [(0, .inr (.inr 150)), (1, .inl (x1))] rfl rfl (List.forall_mem_cons.mpr ⟨rfl, List.forall_mem_cons.mpr ⟨rfl, fun _ h => absurd h List.not_mem_nil⟩⟩) ?_
      exact hk67 _ _ _ h
    · have hc1 : ¬ ((x1) ≤ (x2)) := of_decide_eq_false hc
      rw [if_neg hc1] at h
      refine px_D_st 13 (ip1 := 18) (ls1 := [(0, .inr (.inr 150)), (1, .inl (x1)), (2, .inl (x2))]) (st1 := [.inl (px_wr (32 + x2)), .inr (.inr 159), .inl (px_wr ((px_wr (16 * (s 150 26))) + x2)), .inr (.inr 159)]) (h1 := (px_G1, s)) rfl ?_
      by_cases hc2 : 0 ≤ (px_wr (32 + x2)) ∧ (px_wr (32 + x2)) < 48
      case neg => rw [if_neg hc2] at h; cases h
      rw [if_pos hc2] at h
      refine px_D_iald (k := 154) (n := 48) rfl rfl hc2 ?_
      by_cases hc3 : 0 ≤ (px_wr ((px_wr (16 * (s 150 26))) + x2)) ∧ (px_wr ((px_wr (16 * (s 150 26))) + x2)) < 48
      case neg => rw [if_neg hc3] at h; cases h
      rw [if_pos hc3] at h
      refine px_D_iast (k := 154) (n := 48) rfl rfl hc3 ?_
      refine px_D_st 13 (ip1 := 33) (ls1 := [(0, .inr (.inr 150)), (1, .inl (x1)), (2, .inl (x2))]) (st1 := [.inl (px_wr (32 + x2)), .inr (.inr 160), .inl (px_wr ((px_wr (16 * ((px_up s 159 (px_wr ((px_wr (16 * (s 150 26))) + x2)).toNat (s 159 (px_wr (32 + x2)).toNat)) 150 26))) + x2)), .inr (.inr 160)]) (h1 := (px_G1, px_up s 159 (px_wr ((px_wr (16 * (s 150 26))) + x2)).toNat (s 159 (px_wr (32 + x2)).toNat))) rfl ?_
      by_cases hc4 : 0 ≤ (px_wr (32 + x2)) ∧ (px_wr (32 + x2)) < 48
      case neg => rw [if_neg hc4] at h; cases h
      rw [if_pos hc4] at h
      refine px_D_iald (k := 155) (n := 48) rfl rfl hc4 ?_
      by_cases hc5 : 0 ≤ (px_wr ((px_wr (16 * ((px_up s 159 (px_wr ((px_wr (16 * (s 150 26))) + x2)).toNat (s 159 (px_wr (32 + x2)).toNat)) 150 26))) + x2)) ∧ (px_wr ((px_wr (16 * ((px_up s 159 (px_wr ((px_wr (16 * (s 150 26))) + x2)).toNat (s 159 (px_wr (32 + x2)).toNat)) 150 26))) + x2)) < 48
      case neg => rw [if_neg hc5] at h; cases h
      rw [if_pos hc5] at h
      refine px_D_iast (k := 155) (n := 48) rfl rfl hc5 ?_
      refine px_D_st 13 (ip1 := 48) (ls1 := [(0, .inr (.inr 150)), (1, .inl (x1)), (2, .inl (x2))]) (st1 := [.inl (px_wr (32 + x2)), .inr (.inr 161), .inl (px_wr ((px_wr (16 * ((px_up (px_up s 159 (px_wr ((px_wr (16 * (s 150 26))) + x2)).toNat (s 159 (px_wr (32 + x2)).toNat)) 160 (px_wr ((px_wr (16 * ((px_up s 159 (px_wr ((px_wr (16 * (s 150 26))) + x2)).toNat (s 159 (px_wr (32 + x2)).toNat)) 150 26))) + x2)).toNat ((px_up s 159 (px_wr ((px_wr (16 * (s 150 26))) + x2)).toNat (s 159 (px_wr (32 + x2)).toNat)) 160 (px_wr (32 + x2)).toNat)) 150 26))) + x2)), .inr (.inr 161)]) (h1 := (px_G1, px_up (px_up s 159 (px_wr ((px_wr (16 * (s 150 26))) + x2)).toNat (s 159 (px_wr (32 + x2)).toNat)) 160 (px_wr ((px_wr (16 * ((px_up s 159 (px_wr ((px_wr (16 * (s 150 26))) + x2)).toNat (s 159 (px_wr (32 + x2)).toNat)) 150 26))) + x2)).toNat ((px_up s 159 (px_wr ((px_wr (16 * (s 150 26))) + x2)).toNat (s 159 (px_wr (32 + x2)).toNat)) 160 (px_wr (32 + x2)).toNat))) rfl ?_
      by_cases hc6 : 0 ≤ (px_wr (32 + x2)) ∧ (px_wr (32 + x2)) < 48
      case neg => rw [if_neg hc6] at h; cases h
      rw [if_pos hc6] at h
      refine px_D_iald (k := 156) (n := 48) rfl rfl hc6 ?_
      by_cases hc7 : 0 ≤ (px_wr ((px_wr (16 * ((px_up (px_up s 159 (px_wr ((px_wr (16 * (s 150 26))) + x2)).toNat (s 159 (px_wr (32 + x2)).toNat)) 160 (px_wr ((px_wr (16 * ((px_up s 159 (px_wr ((px_wr (16 * (s 150 26))) + x2)).toNat (s 159 (px_wr (32 + x2)).toNat)) 150 26))) + x2)).toNat ((px_up s 159 (px_wr ((px_wr (16 * (s 150 26))) + x2)).toNat (s 159 (px_wr (32 + x2)).toNat)) 160 (px_wr (32 + x2)).toNat)) 150 26))) + x2)) ∧ (px_wr ((px_wr (16 * ((px_up (px_up s 159 (px_wr ((px_wr (16 * (s 150 26))) + x2)).toNat (s 159 (px_wr (32 + x2)).toNat)) 160 (px_wr ((px_wr (16 * ((px_up s 159 (px_wr ((px_wr (16 * (s 150 26))) + x2)).toNat (s 159 (px_wr (32 + x2)).toNat)) 150 26))) + x2)).toNat ((px_up s 159 (px_wr ((px_wr (16 * (s 150 26))) + x2)).toNat (s 159 (px_wr (32 + x2)).toNat)) 160 (px_wr (32 + x2)).toNat)) 150 26))) + x2)) < 48
      case neg => rw [if_neg hc7] at h; cases h
      rw [if_pos hc7] at h
      refine px_D_iast (k := 156) (n := 48) rfl rfl hc7 ?_
      refine px_D_st 13 (ip1 := 63) (ls1 := [(0, .inr (.inr 150)), (1, .inl (x1)), (2, .inl (x2))]) (st1 := [.inl (px_wr (32 + x2)), .inr (.inr 162), .inl (px_wr ((px_wr (16 * ((px_up (px_up (px_up s 159 (px_wr ((px_wr (16 * (s 150 26))) + x2)).toNat (s 159 (px_wr (32 + x2)).toNat)) 160 (px_wr ((px_wr (16 * ((px_up s 159 (px_wr ((px_wr (16 * (s 150 26))) + x2)).toNat (s 159 (px_wr (32 + x2)).toNat)) 150 26))) + x2)).toNat ((px_up s 159 (px_wr ((px_wr (16 * (s 150 26))) + x2)).toNat (s 159 (px_wr (32 + x2)).toNat)) 160 (px_wr (32 + x2)).toNat)) 161 (px_wr ((px_wr (16 * ((px_up (px_up s 159 (px_wr ((px_wr (16 * (s 150 26))) + x2)).toNat (s 159 (px_wr (32 + x2)).toNat)) 160 (px_wr ((px_wr (16 * ((px_up s 159 (px_wr ((px_wr (16 * (s 150 26))) + x2)).toNat (s 159 (px_wr (32 + x2)).toNat)) 150 26))) + x2)).toNat ((px_up s 159 (px_wr ((px_wr (16 * (s 150 26))) + x2)).toNat (s 159 (px_wr (32 + x2)).toNat)) 160 (px_wr (32 + x2)).toNat)) 150 26))) + x2)).toNat ((px_up (px_up s 159 (px_wr ((px_wr (16 * (s 150 26))) + x2)).toNat (s 159 (px_wr (32 + x2)).toNat)) 160 (px_wr ((px_wr (16 * ((px_up s 159 (px_wr ((px_wr (16 * (s 150 26))) + x2)).toNat (s 159 (px_wr (32 + x2)).toNat)) 150 26))) + x2)).toNat ((px_up s 159 (px_wr ((px_wr (16 * (s 150 26))) + x2)).toNat (s 159 (px_wr (32 + x2)).toNat)) 160 (px_wr (32 + x2)).toNat)) 161 (px_wr (32 + x2)).toNat)) 150 26))) + x2)), .inr (.inr 162)]) (h1 := (px_G1, px_up (px_up (px_up s 159 (px_wr ((px_wr (16 * (s 150 26))) + x2)).toNat (s 159 (px_wr (32 + x2)).toNat)) 160 (px_wr ((px_wr (16 * ((px_up s 159 (px_wr ((px_wr (16 * (s 150 26))) + x2)).toNat (s 159 (px_wr (32 + x2)).toNat)) 150 26))) + x2)).toNat ((px_up s 159 (px_wr ((px_wr (16 * (s 150 26))) + x2)).toNat (s 159 (px_wr (32 + x2)).toNat)) 160 (px_wr (32 + x2)).toNat)) 161 (px_wr ((px_wr (16 * ((px_up (px_up s 159 (px_wr ((px_wr (16 * (s 150 26))) + x2)).toNat (s 159 (px_wr (32 + x2)).toNat)) 160 (px_wr ((px_wr (16 * ((px_up s 159 (px_wr ((px_wr (16 * (s 150 26))) + x2)).toNat (s 159 (px_wr (32 + x2)).toNat)) 150 26))) + x2)).toNat ((px_up s 159 (px_wr ((px_wr (16 * (s 150 26))) + x2)).toNat (s 159 (px_wr (32 + x2)).toNat)) 160 (px_wr (32 + x2)).toNat)) 150 26))) + x2)).toNat ((px_up (px_up s 159 (px_wr ((px_wr (16 * (s 150 26))) + x2)).toNat (s 159 (px_wr (32 + x2)).toNat)) 160 (px_wr ((px_wr (16 * ((px_up s 159 (px_wr ((px_wr (16 * (s 150 26))) + x2)).toNat (s 159 (px_wr (32 + x2)).toNat)) 150 26))) + x2)).toNat ((px_up s 159 (px_wr ((px_wr (16 * (s 150 26))) + x2)).toNat (s 159 (px_wr (32 + x2)).toNat)) 160 (px_wr (32 + x2)).toNat)) 161 (px_wr (32 + x2)).toNat))) rfl ?_
      by_cases hc8 : 0 ≤ (px_wr (32 + x2)) ∧ (px_wr (32 + x2)) < 48
      case neg => rw [if_neg hc8] at h; cases h
      rw [if_pos hc8] at h
      refine px_D_iald (k := 157) (n := 48) rfl rfl hc8 ?_
      by_cases hc9 : 0 ≤ (px_wr ((px_wr (16 * ((px_up (px_up (px_up s 159 (px_wr ((px_wr (16 * (s 150 26))) + x2)).toNat (s 159 (px_wr (32 + x2)).toNat)) 160 (px_wr ((px_wr (16 * ((px_up s 159 (px_wr ((px_wr (16 * (s 150 26))) + x2)).toNat (s 159 (px_wr (32 + x2)).toNat)) 150 26))) + x2)).toNat ((px_up s 159 (px_wr ((px_wr (16 * (s 150 26))) + x2)).toNat (s 159 (px_wr (32 + x2)).toNat)) 160 (px_wr (32 + x2)).toNat)) 161 (px_wr ((px_wr (16 * ((px_up (px_up s 159 (px_wr ((px_wr (16 * (s 150 26))) + x2)).toNat (s 159 (px_wr (32 + x2)).toNat)) 160 (px_wr ((px_wr (16 * ((px_up s 159 (px_wr ((px_wr (16 * (s 150 26))) + x2)).toNat (s 159 (px_wr (32 + x2)).toNat)) 150 26))) + x2)).toNat ((px_up s 159 (px_wr ((px_wr (16 * (s 150 26))) + x2)).toNat (s 159 (px_wr (32 + x2)).toNat)) 160 (px_wr (32 + x2)).toNat)) 150 26))) + x2)).toNat ((px_up (px_up s 159 (px_wr ((px_wr (16 * (s 150 26))) + x2)).toNat (s 159 (px_wr (32 + x2)).toNat)) 160 (px_wr ((px_wr (16 * ((px_up s 159 (px_wr ((px_wr (16 * (s 150 26))) + x2)).toNat (s 159 (px_wr (32 + x2)).toNat)) 150 26))) + x2)).toNat ((px_up s 159 (px_wr ((px_wr (16 * (s 150 26))) + x2)).toNat (s 159 (px_wr (32 + x2)).toNat)) 160 (px_wr (32 + x2)).toNat)) 161 (px_wr (32 + x2)).toNat)) 150 26))) + x2)) ∧ (px_wr ((px_wr (16 * ((px_up (px_up (px_up s 159 (px_wr ((px_wr (16 * (s 150 26))) + x2)).toNat (s 159 (px_wr (32 + x2)).toNat)) 160 (px_wr ((px_wr (16 * ((px_up s 159 (px_wr ((px_wr (16 * (s 150 26))) + x2)).toNat (s 159 (px_wr (32 + x2)).toNat)) 150 26))) + x2)).toNat ((px_up s 159 (px_wr ((px_wr (16 * (s 150 26))) + x2)).toNat (s 159 (px_wr (32 + x2)).toNat)) 160 (px_wr (32 + x2)).toNat)) 161 (px_wr ((px_wr (16 * ((px_up (px_up s 159 (px_wr ((px_wr (16 * (s 150 26))) + x2)).toNat (s 159 (px_wr (32 + x2)).toNat)) 160 (px_wr ((px_wr (16 * ((px_up s 159 (px_wr ((px_wr (16 * (s 150 26))) + x2)).toNat (s 159 (px_wr (32 + x2)).toNat)) 150 26))) + x2)).toNat ((px_up s 159 (px_wr ((px_wr (16 * (s 150 26))) + x2)).toNat (s 159 (px_wr (32 + x2)).toNat)) 160 (px_wr (32 + x2)).toNat)) 150 26))) + x2)).toNat ((px_up (px_up s 159 (px_wr ((px_wr (16 * (s 150 26))) + x2)).toNat (s 159 (px_wr (32 + x2)).toNat)) 160 (px_wr ((px_wr (16 * ((px_up s 159 (px_wr ((px_wr (16 * (s 150 26))) + x2)).toNat (s 159 (px_wr (32 + x2)).toNat)) 150 26))) + x2)).toNat ((px_up s 159 (px_wr ((px_wr (16 * (s 150 26))) + x2)).toNat (s 159 (px_wr (32 + x2)).toNat)) 160 (px_wr (32 + x2)).toNat)) 161 (px_wr (32 + x2)).toNat)) 150 26))) + x2)) < 48
      case neg => rw [if_neg hc9] at h; cases h
      rw [if_pos hc9] at h
      refine px_D_iast (k := 157) (n := 48) rfl rfl hc9 ?_
      refine px_D_st 2 (ip1 := 2) (ls1 := [(2, .inl (px_wr (x2 + 1))), (0, .inr (.inr 150)), (1, .inl (x1))]) (st1 := []) (h1 := (px_G1, px_up (px_up (px_up (px_up s 159 (px_wr ((px_wr (16 * (s 150 26))) + x2)).toNat (s 159 (px_wr (32 + x2)).toNat)) 160 (px_wr ((px_wr (16 * ((px_up s 159 (px_wr ((px_wr (16 * (s 150 26))) + x2)).toNat (s 159 (px_wr (32 + x2)).toNat)) 150 26))) + x2)).toNat ((px_up s 159 (px_wr ((px_wr (16 * (s 150 26))) + x2)).toNat (s 159 (px_wr (32 + x2)).toNat)) 160 (px_wr (32 + x2)).toNat)) 161 (px_wr ((px_wr (16 * ((px_up (px_up s 159 (px_wr ((px_wr (16 * (s 150 26))) + x2)).toNat (s 159 (px_wr (32 + x2)).toNat)) 160 (px_wr ((px_wr (16 * ((px_up s 159 (px_wr ((px_wr (16 * (s 150 26))) + x2)).toNat (s 159 (px_wr (32 + x2)).toNat)) 150 26))) + x2)).toNat ((px_up s 159 (px_wr ((px_wr (16 * (s 150 26))) + x2)).toNat (s 159 (px_wr (32 + x2)).toNat)) 160 (px_wr (32 + x2)).toNat)) 150 26))) + x2)).toNat ((px_up (px_up s 159 (px_wr ((px_wr (16 * (s 150 26))) + x2)).toNat (s 159 (px_wr (32 + x2)).toNat)) 160 (px_wr ((px_wr (16 * ((px_up s 159 (px_wr ((px_wr (16 * (s 150 26))) + x2)).toNat (s 159 (px_wr (32 + x2)).toNat)) 150 26))) + x2)).toNat ((px_up s 159 (px_wr ((px_wr (16 * (s 150 26))) + x2)).toNat (s 159 (px_wr (32 + x2)).toNat)) 160 (px_wr (32 + x2)).toNat)) 161 (px_wr (32 + x2)).toNat)) 162 (px_wr ((px_wr (16 * ((px_up (px_up (px_up s 159 (px_wr ((px_wr (16 * (s 150 26))) + x2)).toNat (s 159 (px_wr (32 + x2)).toNat)) 160 (px_wr ((px_wr (16 * ((px_up s 159 (px_wr ((px_wr (16 * (s 150 26))) + x2)).toNat (s 159 (px_wr (32 + x2)).toNat)) 150 26))) + x2)).toNat ((px_up s 159 (px_wr ((px_wr (16 * (s 150 26))) + x2)).toNat (s 159 (px_wr (32 + x2)).toNat)) 160 (px_wr (32 + x2)).toNat)) 161 (px_wr ((px_wr (16 * ((px_up (px_up s 159 (px_wr ((px_wr (16 * (s 150 26))) + x2)).toNat (s 159 (px_wr (32 + x2)).toNat)) 160 (px_wr ((px_wr (16 * ((px_up s 159 (px_wr ((px_wr (16 * (s 150 26))) + x2)).toNat (s 159 (px_wr (32 + x2)).toNat)) 150 26))) + x2)).toNat ((px_up s 159 (px_wr ((px_wr (16 * (s 150 26))) + x2)).toNat (s 159 (px_wr (32 + x2)).toNat)) 160 (px_wr (32 + x2)).toNat)) 150 26))) + x2)).toNat ((px_up (px_up s 159 (px_wr ((px_wr (16 * (s 150 26))) + x2)).toNat (s 159 (px_wr (32 + x2)).toNat)) 160 (px_wr ((px_wr (16 * ((px_up s 159 (px_wr ((px_wr (16 * (s 150 26))) + x2)).toNat (s 159 (px_wr (32 + x2)).toNat)) 150 26))) + x2)).toNat ((px_up s 159 (px_wr ((px_wr (16 * (s 150 26))) + x2)).toNat (s 159 (px_wr (32 + x2)).toNat)) 160 (px_wr (32 + x2)).toNat)) 161 (px_wr (32 + x2)).toNat)) 150 26))) + x2)).toNat ((px_up (px_up (px_up s 159 (px_wr ((px_wr (16 * (s 150 26))) + x2)).toNat (s 159 (px_wr (32 + x2)).toNat)) 160 (px_wr ((px_wr (16 * ((px_up s 159 (px_wr ((px_wr (16 * (s 150 26))) + x2)).toNat (s 159 (px_wr (32 + x2)).toNat)) 150 26))) + x2)).toNat ((px_up s 159 (px_wr ((px_wr (16 * (s 150 26))) + x2)).toNat (s 159 (px_wr (32 + x2)).toNat)) 160 (px_wr (32 + x2)).toNat)) 161 (px_wr ((px_wr (16 * ((px_up (px_up s 159 (px_wr ((px_wr (16 * (s 150 26))) + x2)).toNat (s 159 (px_wr (32 + x2)).toNat)) 160 (px_wr ((px_wr (16 * ((px_up s 159 (px_wr ((px_wr (16 * (s 150 26))) + x2)).toNat (s 159 (px_wr (32 + x2)).toNat)) 150 26))) + x2)).toNat ((px_up s 159 (px_wr ((px_wr (16 * (s 150 26))) + x2)).toNat (s 159 (px_wr (32 + x2)).toNat)) 160 (px_wr (32 + x2)).toNat)) 150 26))) + x2)).toNat ((px_up (px_up s 159 (px_wr ((px_wr (16 * (s 150 26))) + x2)).toNat (s 159 (px_wr (32 + x2)).toNat)) 160 (px_wr ((px_wr (16 * ((px_up s 159 (px_wr ((px_wr (16 * (s 150 26))) + x2)).toNat (s 159 (px_wr (32 + x2)).toNat)) 150 26))) + x2)).toNat ((px_up s 159 (px_wr ((px_wr (16 * (s 150 26))) + x2)).toNat (s 159 (px_wr (32 + x2)).toNat)) 160 (px_wr (32 + x2)).toNat)) 161 (px_wr (32 + x2)).toNat)) 162 (px_wr (32 + x2)).toNat))) rfl ?_
      refine px_D_ls [(0, .inr (.inr 150)), (1, .inl (x1)), (2, .inl (px_wr (x2 + 1)))] rfl rfl (List.forall_mem_cons.mpr ⟨rfl, List.forall_mem_cons.mpr ⟨rfl, List.forall_mem_cons.mpr ⟨rfl, fun _ h => absurd h List.not_mem_nil⟩⟩⟩) ?_
      exact ih _ _ _ _ h
def l_M_takesLaw_69 (k105 : px_Z → Int → Option (px_Z)) : Nat → px_Z → Int → Int → Option (px_Z)
  | 0, _, _, _ => none
  | n + 1, s, x1, x2 => if (s 150 27) ≤ (x2) then k105 s x1 else (if 0 ≤ (px_wr (800 + x2)) ∧ (px_wr (800 + x2)) < 1200 then if 0 ≤ (px_wr ((px_wr (400 * (s 150 26))) + x2)) ∧ (px_wr ((px_wr (400 * (s 150 26))) + x2)) < 1200 then if 0 ≤ (px_wr (800 + x2)) ∧ (px_wr (800 + x2)) < 1200 then if 0 ≤ (px_wr ((px_wr (400 * ((px_up s 163 (px_wr ((px_wr (400 * (s 150 26))) + x2)).toNat (s 163 (px_wr (800 + x2)).toNat)) 150 26))) + x2)) ∧ (px_wr ((px_wr (400 * ((px_up s 163 (px_wr ((px_wr (400 * (s 150 26))) + x2)).toNat (s 163 (px_wr (800 + x2)).toNat)) 150 26))) + x2)) < 1200 then l_M_takesLaw_69 k105 n (px_up (px_up s 163 (px_wr ((px_wr (400 * (s 150 26))) + x2)).toNat (s 163 (px_wr (800 + x2)).toNat)) 164 (px_wr ((px_wr (400 * ((px_up s 163 (px_wr ((px_wr (400 * (s 150 26))) + x2)).toNat (s 163 (px_wr (800 + x2)).toNat)) 150 26))) + x2)).toNat ((px_up s 163 (px_wr ((px_wr (400 * (s 150 26))) + x2)).toNat (s 163 (px_wr (800 + x2)).toNat)) 164 (px_wr (800 + x2)).toNat)) x1 (px_wr (x2 + 1)) else none else none else none else none)
set_option maxHeartbeats 4000000 in
set_option maxRecDepth 100000 in
theorem cl_M_takesLaw_69 {sc : List Int} {d : Nat} {k105 : px_Z → Int → Option (px_Z)}  (hk105 : ∀ (s : px_Z) (y1 : Int) (out : px_Z), k105 s y1 = some out → px_D sc (d + 0) 189 105 [(0, .inr (.inr 150)), (1, .inl (y1))] [] (px_G1, s) (px_Qv out)) : ∀ (n : Nat) (s : px_Z) (x1 : Int) (x2 : Int) (out : px_Z), l_M_takesLaw_69 k105 n s x1 x2 = some out → px_D sc (d + 0) 189 69 [(0, .inr (.inr 150)), (1, .inl (x1)), (2, .inl (x2))] [] (px_G1, s) (px_Qv out) := by
  intro n
  induction n with
  | zero => intro s x1 x2 out h; cases h
  | succ n ih =>
    intro s x1 x2 out h
    rw [l_M_takesLaw_69] at h
    refine px_D_st 3 (ip1 := 72) (ls1 := [(0, .inr (.inr 150)), (1, .inl (x1)), (2, .inl (x2))]) (st1 := [.inl (s 150 27), .inl (x2)]) (h1 := (px_G1, s)) rfl ?_
    refine px_D_icmp rfl (fun hc => ?_) (fun hc => ?_)
    · have hc10 : (s 150 27) ≤ (x2) := of_decide_eq_true hc
      rw [if_pos hc10] at h
      refine px_D_ls [(0, .inr (.inr 150)), (1, .inl (x1))] rfl rfl (List.forall_mem_cons.mpr ⟨rfl, List.forall_mem_cons.mpr ⟨rfl, fun _ h => absurd h List.not_mem_nil⟩⟩) ?_
      exact hk105 _ _ _ h
    · have hc10 : ¬ ((s 150 27) ≤ (x2)) := of_decide_eq_false hc
      rw [if_neg hc10] at h
      refine px_D_st 13 (ip1 := 86) (ls1 := [(0, .inr (.inr 150)), (1, .inl (x1)), (2, .inl (x2))]) (st1 := [.inl (px_wr (800 + x2)), .inr (.inr 163), .inl (px_wr ((px_wr (400 * (s 150 26))) + x2)), .inr (.inr 163)]) (h1 := (px_G1, s)) rfl ?_
      by_cases hc11 : 0 ≤ (px_wr (800 + x2)) ∧ (px_wr (800 + x2)) < 1200
      case neg => rw [if_neg hc11] at h; cases h
      rw [if_pos hc11] at h
      refine px_D_iald (k := 158) (n := 1200) rfl rfl hc11 ?_
      by_cases hc12 : 0 ≤ (px_wr ((px_wr (400 * (s 150 26))) + x2)) ∧ (px_wr ((px_wr (400 * (s 150 26))) + x2)) < 1200
      case neg => rw [if_neg hc12] at h; cases h
      rw [if_pos hc12] at h
      refine px_D_iast (k := 158) (n := 1200) rfl rfl hc12 ?_
      refine px_D_st 13 (ip1 := 101) (ls1 := [(0, .inr (.inr 150)), (1, .inl (x1)), (2, .inl (x2))]) (st1 := [.inl (px_wr (800 + x2)), .inr (.inr 164), .inl (px_wr ((px_wr (400 * ((px_up s 163 (px_wr ((px_wr (400 * (s 150 26))) + x2)).toNat (s 163 (px_wr (800 + x2)).toNat)) 150 26))) + x2)), .inr (.inr 164)]) (h1 := (px_G1, px_up s 163 (px_wr ((px_wr (400 * (s 150 26))) + x2)).toNat (s 163 (px_wr (800 + x2)).toNat))) rfl ?_
      by_cases hc13 : 0 ≤ (px_wr (800 + x2)) ∧ (px_wr (800 + x2)) < 1200
      case neg => rw [if_neg hc13] at h; cases h
      rw [if_pos hc13] at h
      refine px_D_iald (k := 159) (n := 1200) rfl rfl hc13 ?_
      by_cases hc14 : 0 ≤ (px_wr ((px_wr (400 * ((px_up s 163 (px_wr ((px_wr (400 * (s 150 26))) + x2)).toNat (s 163 (px_wr (800 + x2)).toNat)) 150 26))) + x2)) ∧ (px_wr ((px_wr (400 * ((px_up s 163 (px_wr ((px_wr (400 * (s 150 26))) + x2)).toNat (s 163 (px_wr (800 + x2)).toNat)) 150 26))) + x2)) < 1200
      case neg => rw [if_neg hc14] at h; cases h
      rw [if_pos hc14] at h
      refine px_D_iast (k := 159) (n := 1200) rfl rfl hc14 ?_
      refine px_D_st 2 (ip1 := 69) (ls1 := [(2, .inl (px_wr (x2 + 1))), (0, .inr (.inr 150)), (1, .inl (x1))]) (st1 := []) (h1 := (px_G1, px_up (px_up s 163 (px_wr ((px_wr (400 * (s 150 26))) + x2)).toNat (s 163 (px_wr (800 + x2)).toNat)) 164 (px_wr ((px_wr (400 * ((px_up s 163 (px_wr ((px_wr (400 * (s 150 26))) + x2)).toNat (s 163 (px_wr (800 + x2)).toNat)) 150 26))) + x2)).toNat ((px_up s 163 (px_wr ((px_wr (400 * (s 150 26))) + x2)).toNat (s 163 (px_wr (800 + x2)).toNat)) 164 (px_wr (800 + x2)).toNat))) rfl ?_
      refine px_D_ls [(0, .inr (.inr 150)), (1, .inl (x1)), (2, .inl (px_wr (x2 + 1)))] rfl rfl (List.forall_mem_cons.mpr ⟨rfl, List.forall_mem_cons.mpr ⟨rfl, List.forall_mem_cons.mpr ⟨rfl, fun _ h => absurd h List.not_mem_nil⟩⟩⟩) ?_
      exact ih _ _ _ _ h
def f_M_takesLaw (s : px_Z) (x1 : Int) : Option (px_Z) := l_M_takesLaw_2 (fun s x1 => l_M_takesLaw_69 (fun s x1 => if 0 ≤ (s 150 26) ∧ (s 150 26) < 2 then some (px_up s 158 (s 150 26).toNat x1) else none) px_big s x1 0) px_big s x1 0
set_option maxHeartbeats 4000000 in
set_option maxRecDepth 100000 in
theorem c_M_takesLaw {sc : List Int} {d : Nat} {s : px_Z} {x1 : Int} {out : px_Z} (h : f_M_takesLaw s x1 = some out) : px_D sc (d + 0) 189 0 [(0, .inr (.inr 150)), (1, .inl (x1))] [] (px_G1, s) (px_Qv out) := by
  unfold f_M_takesLaw at h
  refine px_D_st 2 (ip1 := 2) (ls1 := [(2, .inl (0)), (0, .inr (.inr 150)), (1, .inl (x1))]) (st1 := []) (h1 := (px_G1, s)) rfl ?_
  refine px_D_ls [(0, .inr (.inr 150)), (1, .inl (x1)), (2, .inl (0))] rfl rfl (List.forall_mem_cons.mpr ⟨rfl, List.forall_mem_cons.mpr ⟨rfl, List.forall_mem_cons.mpr ⟨rfl, fun _ h => absurd h List.not_mem_nil⟩⟩⟩) ?_
  refine cl_M_takesLaw_2 ?_ px_big _ _ _ _ h
  · intro s x1 out h
    refine px_D_st 2 (ip1 := 69) (ls1 := [(2, .inl (0)), (0, .inr (.inr 150)), (1, .inl (x1))]) (st1 := []) (h1 := (px_G1, s)) rfl ?_
    refine px_D_ls [(0, .inr (.inr 150)), (1, .inl (x1)), (2, .inl (0))] rfl rfl (List.forall_mem_cons.mpr ⟨rfl, List.forall_mem_cons.mpr ⟨rfl, List.forall_mem_cons.mpr ⟨rfl, fun _ h => absurd h List.not_mem_nil⟩⟩⟩) ?_
    refine cl_M_takesLaw_69 ?_ px_big _ _ _ _ h
    · intro s x1 out h
      refine px_D_st 5 (ip1 := 110) (ls1 := [(0, .inr (.inr 150)), (1, .inl (x1))]) (st1 := [.inl (x1), .inl (s 150 26), .inr (.inr 158)]) (h1 := (px_G1, s)) rfl ?_
      by_cases hc15 : 0 ≤ (s 150 26) ∧ (s 150 26) < 2
      case neg => rw [if_neg hc15] at h; cases h
      rw [if_pos hc15] at h
      refine px_D_iast (k := 153) (n := 2) rfl rfl hc15 ?_
      cases h
      exact px_D_vret rfl ⟨rfl, rfl⟩

def f_M_readNumber (s : px_Z) (x1 : Int) (x2 : Int) : Option (Int × px_Z) := if (s 150 16) = (3) then (if (f_M_isIn s (s 150 17) x1 x2) = (0) then (f_M_errs s 2).bind (fun q4 => some (q4.1, q4.2)) else (f_M_reads s ).bind (fun q3 => some (s 150 17, q3))) else (f_M_errs s 1).bind (fun q5 => some (q5.1, q5.2))
set_option maxHeartbeats 4000000 in
set_option maxRecDepth 100000 in
theorem c_M_readNumber {sc : List Int} {d : Nat} {s : px_Z} {x1 : Int} {x2 : Int} {out : Int × px_Z} (h : f_M_readNumber s x1 x2 = some out) : px_D sc (d + 3) 190 0 [(0, .inr (.inr 150)), (1, .inl (x1)), (2, .inl (x2))] [] (px_G1, s) (px_Qi out) := by
  unfold f_M_readNumber at h
  refine px_D_st 3 (ip1 := 3) (ls1 := [(0, .inr (.inr 150)), (1, .inl (x1)), (2, .inl (x2))]) (st1 := [.inl (3), .inl (s 150 16)]) (h1 := (px_G1, s)) rfl ?_
  refine px_D_icmp rfl (fun hc => ?_) (fun hc => ?_)
  · have hc1 : (s 150 16) = (3) := of_decide_eq_true hc
    rw [if_pos hc1] at h
    refine px_D_st 5 (ip1 := 13) (ls1 := [(0, .inr (.inr 150)), (1, .inl (x1)), (2, .inl (x2))]) (st1 := [.inl (x2), .inl (x1), .inl (s 150 17), .inr (.inr 150)]) (h1 := (px_G1, s)) rfl ?_
    refine px_D_call (as := [.inr (.inr 150), .inl (s 150 17), .inl (x1), .inl (x2)]) (rest := []) rfl rfl rfl rfl ?_
    refine px_D_mono (c_M_isIn (d := d + 2) rfl) ?_
    rintro _ _ ⟨rfl, rfl⟩
    show px_D sc (d + 3) 190 14 [(0, .inr (.inr 150)), (1, .inl (x1)), (2, .inl (x2))] [.inl (f_M_isIn s (s 150 17) x1 x2)] (px_G1, s) _
    refine px_D_ifc rfl (fun hc => ?_) (fun hc => ?_)
    · have hc2 : ¬ ((f_M_isIn s (s 150 17) x1 x2) = (0)) := of_decide_eq_true hc
      rw [if_neg hc2] at h
      refine px_D_st 4 (ip1 := 23) (ls1 := [(3, .inl (s 150 17)), (0, .inr (.inr 150)), (1, .inl (x1)), (2, .inl (x2))]) (st1 := [.inr (.inr 150)]) (h1 := (px_G1, s)) rfl ?_
      refine px_D_call (as := [.inr (.inr 150)]) (rest := []) rfl rfl rfl rfl ?_
      obtain ⟨q3, hq3, h⟩ := Option.bind_eq_some_iff.mp h
      refine px_D_mono (c_M_reads (d := d + 0) hq3) ?_
      rintro _ _ ⟨rfl, rfl⟩
      show px_D sc (d + 3) 190 24 [(3, .inl (s 150 17)), (0, .inr (.inr 150)), (1, .inl (x1)), (2, .inl (x2))] [] (px_G1, q3) _
      refine px_D_st 1 (ip1 := 25) (ls1 := [(3, .inl (s 150 17)), (0, .inr (.inr 150)), (1, .inl (x1)), (2, .inl (x2))]) (st1 := [.inl (s 150 17)]) (h1 := (px_G1, q3)) rfl ?_
      cases h
      exact px_D_iret rfl rfl ⟨rfl, rfl⟩
    · have hc2 : (f_M_isIn s (s 150 17) x1 x2) = (0) := Decidable.of_not_not (of_decide_eq_false hc)
      rw [if_pos hc2] at h
      refine px_D_st 2 (ip1 := 17) (ls1 := [(0, .inr (.inr 150)), (1, .inl (x1)), (2, .inl (x2))]) (st1 := [.inl (2), .inr (.inr 150)]) (h1 := (px_G1, s)) rfl ?_
      refine px_D_call (as := [.inr (.inr 150), .inl (2)]) (rest := []) rfl rfl rfl rfl ?_
      obtain ⟨q4, hq4, h⟩ := Option.bind_eq_some_iff.mp h
      refine px_D_mono (c_M_errs (d := d + 2) hq4) ?_
      rintro _ _ ⟨rfl, rfl⟩
      show px_D sc (d + 3) 190 18 [(0, .inr (.inr 150)), (1, .inl (x1)), (2, .inl (x2))] [.inl (q4.1)] (px_G1, q4.2) _
      cases h
      exact px_D_iret rfl rfl ⟨rfl, rfl⟩
  · have hc1 : ¬ ((s 150 16) = (3)) := of_decide_eq_false hc
    rw [if_neg hc1] at h
    refine px_D_st 2 (ip1 := 6) (ls1 := [(0, .inr (.inr 150)), (1, .inl (x1)), (2, .inl (x2))]) (st1 := [.inl (1), .inr (.inr 150)]) (h1 := (px_G1, s)) rfl ?_
    refine px_D_call (as := [.inr (.inr 150), .inl (1)]) (rest := []) rfl rfl rfl rfl ?_
    obtain ⟨q5, hq5, h⟩ := Option.bind_eq_some_iff.mp h
    refine px_D_mono (c_M_errs (d := d + 2) hq5) ?_
    rintro _ _ ⟨rfl, rfl⟩
    show px_D sc (d + 3) 190 7 [(0, .inr (.inr 150)), (1, .inl (x1)), (2, .inl (x2))] [.inl (q5.1)] (px_G1, q5.2) _
    cases h
    exact px_D_iret rfl rfl ⟨rfl, rfl⟩

def f_M_readWord (s : px_Z) (x1 : Int) : Option (Int × px_Z) := if (f_M_isWord s x1) = (0) then (f_M_errs s 1).bind (fun q3 => some (q3.1, q3.2)) else (f_M_reads s ).bind (fun q2 => some (0, q2))
set_option maxHeartbeats 4000000 in
set_option maxRecDepth 100000 in
theorem c_M_readWord {sc : List Int} {d : Nat} {s : px_Z} {x1 : Int} {out : Int × px_Z} (h : f_M_readWord s x1 = some out) : px_D sc (d + 3) 191 0 [(0, .inr (.inr 150)), (1, .inl (x1))] [] (px_G1, s) (px_Qi out) := by
  unfold f_M_readWord at h
  refine px_D_st 2 (ip1 := 2) (ls1 := [(0, .inr (.inr 150)), (1, .inl (x1))]) (st1 := [.inl (x1), .inr (.inr 150)]) (h1 := (px_G1, s)) rfl ?_
  refine px_D_call (as := [.inr (.inr 150), .inl (x1)]) (rest := []) rfl rfl rfl rfl ?_
  refine px_D_mono (c_M_isWord (d := d + 2) rfl) ?_
  rintro _ _ ⟨rfl, rfl⟩
  show px_D sc (d + 3) 191 3 [(0, .inr (.inr 150)), (1, .inl (x1))] [.inl (f_M_isWord s x1)] (px_G1, s) _
  refine px_D_ifc rfl (fun hc => ?_) (fun hc => ?_)
  · have hc1 : ¬ ((f_M_isWord s x1) = (0)) := of_decide_eq_true hc
    rw [if_neg hc1] at h
    refine px_D_st 1 (ip1 := 9) (ls1 := [(0, .inr (.inr 150)), (1, .inl (x1))]) (st1 := [.inr (.inr 150)]) (h1 := (px_G1, s)) rfl ?_
    refine px_D_call (as := [.inr (.inr 150)]) (rest := []) rfl rfl rfl rfl ?_
    obtain ⟨q2, hq2, h⟩ := Option.bind_eq_some_iff.mp h
    refine px_D_mono (c_M_reads (d := d + 0) hq2) ?_
    rintro _ _ ⟨rfl, rfl⟩
    show px_D sc (d + 3) 191 10 [(0, .inr (.inr 150)), (1, .inl (x1))] [] (px_G1, q2) _
    refine px_D_st 1 (ip1 := 11) (ls1 := [(0, .inr (.inr 150)), (1, .inl (x1))]) (st1 := [.inl (0)]) (h1 := (px_G1, q2)) rfl ?_
    cases h
    exact px_D_iret rfl rfl ⟨rfl, rfl⟩
  · have hc1 : (f_M_isWord s x1) = (0) := Decidable.of_not_not (of_decide_eq_false hc)
    rw [if_pos hc1] at h
    refine px_D_st 2 (ip1 := 6) (ls1 := [(0, .inr (.inr 150)), (1, .inl (x1))]) (st1 := [.inl (1), .inr (.inr 150)]) (h1 := (px_G1, s)) rfl ?_
    refine px_D_call (as := [.inr (.inr 150), .inl (1)]) (rest := []) rfl rfl rfl rfl ?_
    obtain ⟨q3, hq3, h⟩ := Option.bind_eq_some_iff.mp h
    refine px_D_mono (c_M_errs (d := d + 2) hq3) ?_
    rintro _ _ ⟨rfl, rfl⟩
    show px_D sc (d + 3) 191 7 [(0, .inr (.inr 150)), (1, .inl (x1))] [.inl (q3.1)] (px_G1, q3.2) _
    cases h
    exact px_D_iret rfl rfl ⟨rfl, rfl⟩

def f_M_readMark (s : px_Z) (x1 : Int) : Option (Int × px_Z) := if (f_M_isSign s x1) = (0) then (f_M_errs s 1).bind (fun q3 => some (q3.1, q3.2)) else (f_M_reads s ).bind (fun q2 => some (0, q2))
set_option maxHeartbeats 4000000 in
set_option maxRecDepth 100000 in
theorem c_M_readMark {sc : List Int} {d : Nat} {s : px_Z} {x1 : Int} {out : Int × px_Z} (h : f_M_readMark s x1 = some out) : px_D sc (d + 3) 192 0 [(0, .inr (.inr 150)), (1, .inl (x1))] [] (px_G1, s) (px_Qi out) := by
  unfold f_M_readMark at h
  refine px_D_st 2 (ip1 := 2) (ls1 := [(0, .inr (.inr 150)), (1, .inl (x1))]) (st1 := [.inl (x1), .inr (.inr 150)]) (h1 := (px_G1, s)) rfl ?_
  refine px_D_call (as := [.inr (.inr 150), .inl (x1)]) (rest := []) rfl rfl rfl rfl ?_
  refine px_D_mono (c_M_isSign (d := d + 2) rfl) ?_
  rintro _ _ ⟨rfl, rfl⟩
  show px_D sc (d + 3) 192 3 [(0, .inr (.inr 150)), (1, .inl (x1))] [.inl (f_M_isSign s x1)] (px_G1, s) _
  refine px_D_ifc rfl (fun hc => ?_) (fun hc => ?_)
  · have hc1 : ¬ ((f_M_isSign s x1) = (0)) := of_decide_eq_true hc
    rw [if_neg hc1] at h
    refine px_D_st 1 (ip1 := 9) (ls1 := [(0, .inr (.inr 150)), (1, .inl (x1))]) (st1 := [.inr (.inr 150)]) (h1 := (px_G1, s)) rfl ?_
    refine px_D_call (as := [.inr (.inr 150)]) (rest := []) rfl rfl rfl rfl ?_
    obtain ⟨q2, hq2, h⟩ := Option.bind_eq_some_iff.mp h
    refine px_D_mono (c_M_reads (d := d + 0) hq2) ?_
    rintro _ _ ⟨rfl, rfl⟩
    show px_D sc (d + 3) 192 10 [(0, .inr (.inr 150)), (1, .inl (x1))] [] (px_G1, q2) _
    refine px_D_st 1 (ip1 := 11) (ls1 := [(0, .inr (.inr 150)), (1, .inl (x1))]) (st1 := [.inl (0)]) (h1 := (px_G1, q2)) rfl ?_
    cases h
    exact px_D_iret rfl rfl ⟨rfl, rfl⟩
  · have hc1 : (f_M_isSign s x1) = (0) := Decidable.of_not_not (of_decide_eq_false hc)
    rw [if_pos hc1] at h
    refine px_D_st 2 (ip1 := 6) (ls1 := [(0, .inr (.inr 150)), (1, .inl (x1))]) (st1 := [.inl (1), .inr (.inr 150)]) (h1 := (px_G1, s)) rfl ?_
    refine px_D_call (as := [.inr (.inr 150), .inl (1)]) (rest := []) rfl rfl rfl rfl ?_
    obtain ⟨q3, hq3, h⟩ := Option.bind_eq_some_iff.mp h
    refine px_D_mono (c_M_errs (d := d + 2) hq3) ?_
    rintro _ _ ⟨rfl, rfl⟩
    show px_D sc (d + 3) 192 7 [(0, .inr (.inr 150)), (1, .inl (x1))] [.inl (q3.1)] (px_G1, q3.2) _
    cases h
    exact px_D_iret rfl rfl ⟨rfl, rfl⟩

def f_M_readTold (s : px_Z) (x1 : Int) (x2 : Int) (x3 : Int) : Option (Int × px_Z) := (f_M_readWord s x1).bind (fun q1 => if (q1.1) = ((-1)) then some (((-1), q1.2)) else (f_M_readNumber q1.2 x2 x3).bind (fun q3 => some (q3.1, q3.2)))
set_option maxHeartbeats 4000000 in
set_option maxRecDepth 100000 in
theorem c_M_readTold {sc : List Int} {d : Nat} {s : px_Z} {x1 : Int} {x2 : Int} {x3 : Int} {out : Int × px_Z} (h : f_M_readTold s x1 x2 x3 = some out) : px_D sc (d + 4) 193 0 [(0, .inr (.inr 150)), (1, .inl (x1)), (2, .inl (x2)), (3, .inl (x3))] [] (px_G1, s) (px_Qi out) := by
  unfold f_M_readTold at h
  refine px_D_st 2 (ip1 := 2) (ls1 := [(0, .inr (.inr 150)), (1, .inl (x1)), (2, .inl (x2)), (3, .inl (x3))]) (st1 := [.inl (x1), .inr (.inr 150)]) (h1 := (px_G1, s)) rfl ?_
  refine px_D_call (as := [.inr (.inr 150), .inl (x1)]) (rest := []) rfl rfl rfl rfl ?_
  obtain ⟨q1, hq1, h⟩ := Option.bind_eq_some_iff.mp h
  refine px_D_mono (c_M_readWord (d := d + 0) hq1) ?_
  rintro _ _ ⟨rfl, rfl⟩
  show px_D sc (d + 4) 193 3 [(0, .inr (.inr 150)), (1, .inl (x1)), (2, .inl (x2)), (3, .inl (x3))] [.inl (q1.1)] (px_G1, q1.2) _
  refine px_D_st 1 (ip1 := 4) (ls1 := [(0, .inr (.inr 150)), (1, .inl (x1)), (2, .inl (x2)), (3, .inl (x3))]) (st1 := [.inl ((-1)), .inl (q1.1)]) (h1 := (px_G1, q1.2)) rfl ?_
  refine px_D_icmp rfl (fun hc => ?_) (fun hc => ?_)
  · have hc2 : ¬ ((q1.1) = ((-1))) := of_decide_eq_true hc
    rw [if_neg hc2] at h
    refine px_D_st 3 (ip1 := 10) (ls1 := [(0, .inr (.inr 150)), (1, .inl (x1)), (2, .inl (x2)), (3, .inl (x3))]) (st1 := [.inl (x3), .inl (x2), .inr (.inr 150)]) (h1 := (px_G1, q1.2)) rfl ?_
    refine px_D_call (as := [.inr (.inr 150), .inl (x2), .inl (x3)]) (rest := []) rfl rfl rfl rfl ?_
    obtain ⟨q3, hq3, h⟩ := Option.bind_eq_some_iff.mp h
    refine px_D_mono (c_M_readNumber (d := d + 0) hq3) ?_
    rintro _ _ ⟨rfl, rfl⟩
    show px_D sc (d + 4) 193 11 [(0, .inr (.inr 150)), (1, .inl (x1)), (2, .inl (x2)), (3, .inl (x3))] [.inl (q3.1)] (px_G1, q3.2) _
    cases h
    exact px_D_iret rfl rfl ⟨rfl, rfl⟩
  · have hc2 : (q1.1) = ((-1)) := Decidable.of_not_not (of_decide_eq_false hc)
    rw [if_pos hc2] at h
    refine px_D_st 2 (ip1 := 11) (ls1 := [(0, .inr (.inr 150)), (1, .inl (x1)), (2, .inl (x2)), (3, .inl (x3))]) (st1 := [.inl ((-1))]) (h1 := (px_G1, q1.2)) rfl ?_
    cases h
    exact px_D_iret rfl rfl ⟨rfl, rfl⟩

def f_M_readPass (s : px_Z) (x1 : Int) : Option (Int × px_Z) := if 0 ≤ (px_wr (x1 + 0)) ∧ (px_wr (x1 + 0)) < 240 then (f_M_readTold (px_up s 166 (px_wr (x1 + 0)).toNat (-1)) 17 0 5).bind (fun q2 => if 0 ≤ (px_wr (x1 + 1)) ∧ (px_wr (x1 + 1)) < 240 then if 0 ≤ (px_wr (x1 + 1)) ∧ (px_wr (x1 + 1)) < 240 then if ((px_up q2.2 166 (px_wr (x1 + 1)).toNat q2.1) 166 (px_wr (x1 + 1)).toNat) = ((-1)) then some (((-1), px_up q2.2 166 (px_wr (x1 + 1)).toNat q2.1)) else (f_M_readTold (px_up q2.2 166 (px_wr (x1 + 1)).toNat q2.1) 18 0 60).bind (fun q6 => if 0 ≤ (px_wr (x1 + 2)) ∧ (px_wr (x1 + 2)) < 240 then if 0 ≤ (px_wr (x1 + 2)) ∧ (px_wr (x1 + 2)) < 240 then if ((px_up q6.2 166 (px_wr (x1 + 2)).toNat q6.1) 166 (px_wr (x1 + 2)).toNat) = ((-1)) then some (((-1), px_up q6.2 166 (px_wr (x1 + 2)).toNat q6.1)) else (if 0 ≤ (px_wr (x1 + 2)) ∧ (px_wr (x1 + 2)) < 240 then (f_M_readTold (px_up q6.2 166 (px_wr (x1 + 2)).toNat q6.1) 19 ((px_up q6.2 166 (px_wr (x1 + 2)).toNat q6.1) 166 (px_wr (x1 + 2)).toNat) 60).bind (fun q11 => if 0 ≤ (px_wr (x1 + 3)) ∧ (px_wr (x1 + 3)) < 240 then if 0 ≤ (px_wr (x1 + 3)) ∧ (px_wr (x1 + 3)) < 240 then if ((px_up q11.2 166 (px_wr (x1 + 3)).toNat q11.1) 166 (px_wr (x1 + 3)).toNat) = ((-1)) then some (((-1), px_up q11.2 166 (px_wr (x1 + 3)).toNat q11.1)) else (f_M_readTold (px_up q11.2 166 (px_wr (x1 + 3)).toNat q11.1) 20 0 5).bind (fun q15 => if 0 ≤ (px_wr (x1 + 4)) ∧ (px_wr (x1 + 4)) < 240 then if 0 ≤ (px_wr (x1 + 4)) ∧ (px_wr (x1 + 4)) < 240 then if ((px_up q15.2 166 (px_wr (x1 + 4)).toNat q15.1) 166 (px_wr (x1 + 4)).toNat) = ((-1)) then some (((-1), px_up q15.2 166 (px_wr (x1 + 4)).toNat q15.1)) else (f_M_readMark (px_up q15.2 166 (px_wr (x1 + 4)).toNat q15.1) 59).bind (fun q19 => some (q19.1, q19.2)) else none else none) else none else none) else none) else none else none) else none else none) else none
set_option maxHeartbeats 4000000 in
set_option maxRecDepth 100000 in
theorem c_M_readPass {sc : List Int} {d : Nat} {s : px_Z} {x1 : Int} {out : Int × px_Z} (h : f_M_readPass s x1 = some out) : px_D sc (d + 5) 194 0 [(0, .inr (.inr 150)), (1, .inl (x1))] [] (px_G1, s) (px_Qi out) := by
  unfold f_M_readPass at h
  refine px_D_st 6 (ip1 := 6) (ls1 := [(0, .inr (.inr 150)), (1, .inl (x1))]) (st1 := [.inl ((-1)), .inl (px_wr (x1 + 0)), .inr (.inr 166)]) (h1 := (px_G1, s)) rfl ?_
  by_cases hc1 : 0 ≤ (px_wr (x1 + 0)) ∧ (px_wr (x1 + 0)) < 240
  case neg => rw [if_neg hc1] at h; cases h
  rw [if_pos hc1] at h
  refine px_D_iast (k := 161) (n := 240) rfl rfl hc1 ?_
  refine px_D_st 9 (ip1 := 16) (ls1 := [(0, .inr (.inr 150)), (1, .inl (x1))]) (st1 := [.inl (5), .inl (0), .inl (17), .inr (.inr 150), .inl (px_wr (x1 + 1)), .inr (.inr 166)]) (h1 := (px_G1, px_up s 166 (px_wr (x1 + 0)).toNat (-1))) rfl ?_
  refine px_D_call (as := [.inr (.inr 150), .inl (17), .inl (0), .inl (5)]) (rest := [.inl (px_wr (x1 + 1)), .inr (.inr 166)]) rfl rfl rfl rfl ?_
  obtain ⟨q2, hq2, h⟩ := Option.bind_eq_some_iff.mp h
  refine px_D_mono (c_M_readTold (d := d + 0) hq2) ?_
  rintro _ _ ⟨rfl, rfl⟩
  show px_D sc (d + 5) 194 17 [(0, .inr (.inr 150)), (1, .inl (x1))] [.inl (q2.1), .inl (px_wr (x1 + 1)), .inr (.inr 166)] (px_G1, q2.2) _
  by_cases hc3 : 0 ≤ (px_wr (x1 + 1)) ∧ (px_wr (x1 + 1)) < 240
  case neg => rw [if_neg hc3] at h; cases h
  rw [if_pos hc3] at h
  refine px_D_iast (k := 161) (n := 240) rfl rfl hc3 ?_
  refine px_D_st 5 (ip1 := 23) (ls1 := [(0, .inr (.inr 150)), (1, .inl (x1))]) (st1 := [.inl (px_wr (x1 + 1)), .inr (.inr 166)]) (h1 := (px_G1, px_up q2.2 166 (px_wr (x1 + 1)).toNat q2.1)) rfl ?_
  by_cases hc4 : 0 ≤ (px_wr (x1 + 1)) ∧ (px_wr (x1 + 1)) < 240
  case neg => rw [if_neg hc4] at h; cases h
  rw [if_pos hc4] at h
  refine px_D_iald (k := 161) (n := 240) rfl rfl hc4 ?_
  refine px_D_st 1 (ip1 := 25) (ls1 := [(0, .inr (.inr 150)), (1, .inl (x1))]) (st1 := [.inl ((-1)), .inl ((px_up q2.2 166 (px_wr (x1 + 1)).toNat q2.1) 166 (px_wr (x1 + 1)).toNat)]) (h1 := (px_G1, px_up q2.2 166 (px_wr (x1 + 1)).toNat q2.1)) rfl ?_
  refine px_D_icmp rfl (fun hc => ?_) (fun hc => ?_)
  · have hc5 : ¬ (((px_up q2.2 166 (px_wr (x1 + 1)).toNat q2.1) 166 (px_wr (x1 + 1)).toNat) = ((-1))) := of_decide_eq_true hc
    rw [if_neg hc5] at h
    refine px_D_st 9 (ip1 := 37) (ls1 := [(0, .inr (.inr 150)), (1, .inl (x1))]) (st1 := [.inl (60), .inl (0), .inl (18), .inr (.inr 150), .inl (px_wr (x1 + 2)), .inr (.inr 166)]) (h1 := (px_G1, px_up q2.2 166 (px_wr (x1 + 1)).toNat q2.1)) rfl ?_
    refine px_D_call (as := [.inr (.inr 150), .inl (18), .inl (0), .inl (60)]) (rest := [.inl (px_wr (x1 + 2)), .inr (.inr 166)]) rfl rfl rfl rfl ?_
    obtain ⟨q6, hq6, h⟩ := Option.bind_eq_some_iff.mp h
    refine px_D_mono (c_M_readTold (d := d + 0) hq6) ?_
    rintro _ _ ⟨rfl, rfl⟩
    show px_D sc (d + 5) 194 38 [(0, .inr (.inr 150)), (1, .inl (x1))] [.inl (q6.1), .inl (px_wr (x1 + 2)), .inr (.inr 166)] (px_G1, q6.2) _
    by_cases hc7 : 0 ≤ (px_wr (x1 + 2)) ∧ (px_wr (x1 + 2)) < 240
    case neg => rw [if_neg hc7] at h; cases h
    rw [if_pos hc7] at h
    refine px_D_iast (k := 161) (n := 240) rfl rfl hc7 ?_
    refine px_D_st 5 (ip1 := 44) (ls1 := [(0, .inr (.inr 150)), (1, .inl (x1))]) (st1 := [.inl (px_wr (x1 + 2)), .inr (.inr 166)]) (h1 := (px_G1, px_up q6.2 166 (px_wr (x1 + 2)).toNat q6.1)) rfl ?_
    by_cases hc8 : 0 ≤ (px_wr (x1 + 2)) ∧ (px_wr (x1 + 2)) < 240
    case neg => rw [if_neg hc8] at h; cases h
    rw [if_pos hc8] at h
    refine px_D_iald (k := 161) (n := 240) rfl rfl hc8 ?_
    refine px_D_st 1 (ip1 := 46) (ls1 := [(0, .inr (.inr 150)), (1, .inl (x1))]) (st1 := [.inl ((-1)), .inl ((px_up q6.2 166 (px_wr (x1 + 2)).toNat q6.1) 166 (px_wr (x1 + 2)).toNat)]) (h1 := (px_G1, px_up q6.2 166 (px_wr (x1 + 2)).toNat q6.1)) rfl ?_
    refine px_D_icmp rfl (fun hc => ?_) (fun hc => ?_)
    · have hc9 : ¬ (((px_up q6.2 166 (px_wr (x1 + 2)).toNat q6.1) 166 (px_wr (x1 + 2)).toNat) = ((-1))) := of_decide_eq_true hc
      rw [if_neg hc9] at h
      refine px_D_st 12 (ip1 := 61) (ls1 := [(0, .inr (.inr 150)), (1, .inl (x1))]) (st1 := [.inl (px_wr (x1 + 2)), .inr (.inr 166), .inl (19), .inr (.inr 150), .inl (px_wr (x1 + 3)), .inr (.inr 166)]) (h1 := (px_G1, px_up q6.2 166 (px_wr (x1 + 2)).toNat q6.1)) rfl ?_
      by_cases hc10 : 0 ≤ (px_wr (x1 + 2)) ∧ (px_wr (x1 + 2)) < 240
      case neg => rw [if_neg hc10] at h; cases h
      rw [if_pos hc10] at h
      refine px_D_iald (k := 161) (n := 240) rfl rfl hc10 ?_
      refine px_D_st 1 (ip1 := 63) (ls1 := [(0, .inr (.inr 150)), (1, .inl (x1))]) (st1 := [.inl (60), .inl ((px_up q6.2 166 (px_wr (x1 + 2)).toNat q6.1) 166 (px_wr (x1 + 2)).toNat), .inl (19), .inr (.inr 150), .inl (px_wr (x1 + 3)), .inr (.inr 166)]) (h1 := (px_G1, px_up q6.2 166 (px_wr (x1 + 2)).toNat q6.1)) rfl ?_
      refine px_D_call (as := [.inr (.inr 150), .inl (19), .inl ((px_up q6.2 166 (px_wr (x1 + 2)).toNat q6.1) 166 (px_wr (x1 + 2)).toNat), .inl (60)]) (rest := [.inl (px_wr (x1 + 3)), .inr (.inr 166)]) rfl rfl rfl rfl ?_
      obtain ⟨q11, hq11, h⟩ := Option.bind_eq_some_iff.mp h
      refine px_D_mono (c_M_readTold (d := d + 0) hq11) ?_
      rintro _ _ ⟨rfl, rfl⟩
      show px_D sc (d + 5) 194 64 [(0, .inr (.inr 150)), (1, .inl (x1))] [.inl (q11.1), .inl (px_wr (x1 + 3)), .inr (.inr 166)] (px_G1, q11.2) _
      by_cases hc12 : 0 ≤ (px_wr (x1 + 3)) ∧ (px_wr (x1 + 3)) < 240
      case neg => rw [if_neg hc12] at h; cases h
      rw [if_pos hc12] at h
      refine px_D_iast (k := 161) (n := 240) rfl rfl hc12 ?_
      refine px_D_st 5 (ip1 := 70) (ls1 := [(0, .inr (.inr 150)), (1, .inl (x1))]) (st1 := [.inl (px_wr (x1 + 3)), .inr (.inr 166)]) (h1 := (px_G1, px_up q11.2 166 (px_wr (x1 + 3)).toNat q11.1)) rfl ?_
      by_cases hc13 : 0 ≤ (px_wr (x1 + 3)) ∧ (px_wr (x1 + 3)) < 240
      case neg => rw [if_neg hc13] at h; cases h
      rw [if_pos hc13] at h
      refine px_D_iald (k := 161) (n := 240) rfl rfl hc13 ?_
      refine px_D_st 1 (ip1 := 72) (ls1 := [(0, .inr (.inr 150)), (1, .inl (x1))]) (st1 := [.inl ((-1)), .inl ((px_up q11.2 166 (px_wr (x1 + 3)).toNat q11.1) 166 (px_wr (x1 + 3)).toNat)]) (h1 := (px_G1, px_up q11.2 166 (px_wr (x1 + 3)).toNat q11.1)) rfl ?_
      refine px_D_icmp rfl (fun hc => ?_) (fun hc => ?_)
      · have hc14 : ¬ (((px_up q11.2 166 (px_wr (x1 + 3)).toNat q11.1) 166 (px_wr (x1 + 3)).toNat) = ((-1))) := of_decide_eq_true hc
        rw [if_neg hc14] at h
        refine px_D_st 9 (ip1 := 84) (ls1 := [(0, .inr (.inr 150)), (1, .inl (x1))]) (st1 := [.inl (5), .inl (0), .inl (20), .inr (.inr 150), .inl (px_wr (x1 + 4)), .inr (.inr 166)]) (h1 := (px_G1, px_up q11.2 166 (px_wr (x1 + 3)).toNat q11.1)) rfl ?_
        refine px_D_call (as := [.inr (.inr 150), .inl (20), .inl (0), .inl (5)]) (rest := [.inl (px_wr (x1 + 4)), .inr (.inr 166)]) rfl rfl rfl rfl ?_
        obtain ⟨q15, hq15, h⟩ := Option.bind_eq_some_iff.mp h
        refine px_D_mono (c_M_readTold (d := d + 0) hq15) ?_
        rintro _ _ ⟨rfl, rfl⟩
        show px_D sc (d + 5) 194 85 [(0, .inr (.inr 150)), (1, .inl (x1))] [.inl (q15.1), .inl (px_wr (x1 + 4)), .inr (.inr 166)] (px_G1, q15.2) _
        by_cases hc16 : 0 ≤ (px_wr (x1 + 4)) ∧ (px_wr (x1 + 4)) < 240
        case neg => rw [if_neg hc16] at h; cases h
        rw [if_pos hc16] at h
        refine px_D_iast (k := 161) (n := 240) rfl rfl hc16 ?_
        refine px_D_st 5 (ip1 := 91) (ls1 := [(0, .inr (.inr 150)), (1, .inl (x1))]) (st1 := [.inl (px_wr (x1 + 4)), .inr (.inr 166)]) (h1 := (px_G1, px_up q15.2 166 (px_wr (x1 + 4)).toNat q15.1)) rfl ?_
        by_cases hc17 : 0 ≤ (px_wr (x1 + 4)) ∧ (px_wr (x1 + 4)) < 240
        case neg => rw [if_neg hc17] at h; cases h
        rw [if_pos hc17] at h
        refine px_D_iald (k := 161) (n := 240) rfl rfl hc17 ?_
        refine px_D_st 1 (ip1 := 93) (ls1 := [(0, .inr (.inr 150)), (1, .inl (x1))]) (st1 := [.inl ((-1)), .inl ((px_up q15.2 166 (px_wr (x1 + 4)).toNat q15.1) 166 (px_wr (x1 + 4)).toNat)]) (h1 := (px_G1, px_up q15.2 166 (px_wr (x1 + 4)).toNat q15.1)) rfl ?_
        refine px_D_icmp rfl (fun hc => ?_) (fun hc => ?_)
        · have hc18 : ¬ (((px_up q15.2 166 (px_wr (x1 + 4)).toNat q15.1) 166 (px_wr (x1 + 4)).toNat) = ((-1))) := of_decide_eq_true hc
          rw [if_neg hc18] at h
          refine px_D_st 2 (ip1 := 98) (ls1 := [(0, .inr (.inr 150)), (1, .inl (x1))]) (st1 := [.inl (59), .inr (.inr 150)]) (h1 := (px_G1, px_up q15.2 166 (px_wr (x1 + 4)).toNat q15.1)) rfl ?_
          refine px_D_call (as := [.inr (.inr 150), .inl (59)]) (rest := []) rfl rfl rfl rfl ?_
          obtain ⟨q19, hq19, h⟩ := Option.bind_eq_some_iff.mp h
          refine px_D_mono (c_M_readMark (d := d + 1) hq19) ?_
          rintro _ _ ⟨rfl, rfl⟩
          show px_D sc (d + 5) 194 99 [(0, .inr (.inr 150)), (1, .inl (x1))] [.inl (q19.1)] (px_G1, q19.2) _
          cases h
          exact px_D_iret rfl rfl ⟨rfl, rfl⟩
        · have hc18 : ((px_up q15.2 166 (px_wr (x1 + 4)).toNat q15.1) 166 (px_wr (x1 + 4)).toNat) = ((-1)) := Decidable.of_not_not (of_decide_eq_false hc)
          rw [if_pos hc18] at h
          refine px_D_st 2 (ip1 := 99) (ls1 := [(0, .inr (.inr 150)), (1, .inl (x1))]) (st1 := [.inl ((-1))]) (h1 := (px_G1, px_up q15.2 166 (px_wr (x1 + 4)).toNat q15.1)) rfl ?_
          cases h
          exact px_D_iret rfl rfl ⟨rfl, rfl⟩
      · have hc14 : ((px_up q11.2 166 (px_wr (x1 + 3)).toNat q11.1) 166 (px_wr (x1 + 3)).toNat) = ((-1)) := Decidable.of_not_not (of_decide_eq_false hc)
        rw [if_pos hc14] at h
        refine px_D_st 1 (ip1 := 74) (ls1 := [(0, .inr (.inr 150)), (1, .inl (x1))]) (st1 := [.inl ((-1))]) (h1 := (px_G1, px_up q11.2 166 (px_wr (x1 + 3)).toNat q11.1)) rfl ?_
        cases h
        exact px_D_iret rfl rfl ⟨rfl, rfl⟩
    · have hc9 : ((px_up q6.2 166 (px_wr (x1 + 2)).toNat q6.1) 166 (px_wr (x1 + 2)).toNat) = ((-1)) := Decidable.of_not_not (of_decide_eq_false hc)
      rw [if_pos hc9] at h
      refine px_D_st 1 (ip1 := 48) (ls1 := [(0, .inr (.inr 150)), (1, .inl (x1))]) (st1 := [.inl ((-1))]) (h1 := (px_G1, px_up q6.2 166 (px_wr (x1 + 2)).toNat q6.1)) rfl ?_
      cases h
      exact px_D_iret rfl rfl ⟨rfl, rfl⟩
  · have hc5 : ((px_up q2.2 166 (px_wr (x1 + 1)).toNat q2.1) 166 (px_wr (x1 + 1)).toNat) = ((-1)) := Decidable.of_not_not (of_decide_eq_false hc)
    rw [if_pos hc5] at h
    refine px_D_st 1 (ip1 := 27) (ls1 := [(0, .inr (.inr 150)), (1, .inl (x1))]) (st1 := [.inl ((-1))]) (h1 := (px_G1, px_up q2.2 166 (px_wr (x1 + 1)).toNat q2.1)) rfl ?_
    cases h
    exact px_D_iret rfl rfl ⟨rfl, rfl⟩

def f_M_readCave (s : px_Z) (x1 : Int) : Option (Int × px_Z) := (f_M_readTold s 21 0 7).bind (fun q1 => if 0 ≤ (px_wr (x1 + 0)) ∧ (px_wr (x1 + 0)) < 240 then if 0 ≤ (px_wr (x1 + 0)) ∧ (px_wr (x1 + 0)) < 240 then if ((px_up q1.2 166 (px_wr (x1 + 0)).toNat q1.1) 166 (px_wr (x1 + 0)).toNat) = ((-1)) then some (((-1), px_up q1.2 166 (px_wr (x1 + 0)).toNat q1.1)) else (f_M_readTold (px_up q1.2 166 (px_wr (x1 + 0)).toNat q1.1) 22 0 5).bind (fun q5 => if 0 ≤ (px_wr (x1 + 1)) ∧ (px_wr (x1 + 1)) < 240 then if 0 ≤ (px_wr (x1 + 1)) ∧ (px_wr (x1 + 1)) < 240 then if ((px_up q5.2 166 (px_wr (x1 + 1)).toNat q5.1) 166 (px_wr (x1 + 1)).toNat) = ((-1)) then some (((-1), px_up q5.2 166 (px_wr (x1 + 1)).toNat q5.1)) else (f_M_readMark (px_up q5.2 166 (px_wr (x1 + 1)).toNat q5.1) 59).bind (fun q9 => some (q9.1, q9.2)) else none else none) else none else none)
set_option maxHeartbeats 4000000 in
set_option maxRecDepth 100000 in
theorem c_M_readCave {sc : List Int} {d : Nat} {s : px_Z} {x1 : Int} {out : Int × px_Z} (h : f_M_readCave s x1 = some out) : px_D sc (d + 5) 195 0 [(0, .inr (.inr 150)), (1, .inl (x1))] [] (px_G1, s) (px_Qi out) := by
  unfold f_M_readCave at h
  refine px_D_st 9 (ip1 := 9) (ls1 := [(0, .inr (.inr 150)), (1, .inl (x1))]) (st1 := [.inl (7), .inl (0), .inl (21), .inr (.inr 150), .inl (px_wr (x1 + 0)), .inr (.inr 166)]) (h1 := (px_G1, s)) rfl ?_
  refine px_D_call (as := [.inr (.inr 150), .inl (21), .inl (0), .inl (7)]) (rest := [.inl (px_wr (x1 + 0)), .inr (.inr 166)]) rfl rfl rfl rfl ?_
  obtain ⟨q1, hq1, h⟩ := Option.bind_eq_some_iff.mp h
  refine px_D_mono (c_M_readTold (d := d + 0) hq1) ?_
  rintro _ _ ⟨rfl, rfl⟩
  show px_D sc (d + 5) 195 10 [(0, .inr (.inr 150)), (1, .inl (x1))] [.inl (q1.1), .inl (px_wr (x1 + 0)), .inr (.inr 166)] (px_G1, q1.2) _
  by_cases hc2 : 0 ≤ (px_wr (x1 + 0)) ∧ (px_wr (x1 + 0)) < 240
  case neg => rw [if_neg hc2] at h; cases h
  rw [if_pos hc2] at h
  refine px_D_iast (k := 161) (n := 240) rfl rfl hc2 ?_
  refine px_D_st 5 (ip1 := 16) (ls1 := [(0, .inr (.inr 150)), (1, .inl (x1))]) (st1 := [.inl (px_wr (x1 + 0)), .inr (.inr 166)]) (h1 := (px_G1, px_up q1.2 166 (px_wr (x1 + 0)).toNat q1.1)) rfl ?_
  by_cases hc3 : 0 ≤ (px_wr (x1 + 0)) ∧ (px_wr (x1 + 0)) < 240
  case neg => rw [if_neg hc3] at h; cases h
  rw [if_pos hc3] at h
  refine px_D_iald (k := 161) (n := 240) rfl rfl hc3 ?_
  refine px_D_st 1 (ip1 := 18) (ls1 := [(0, .inr (.inr 150)), (1, .inl (x1))]) (st1 := [.inl ((-1)), .inl ((px_up q1.2 166 (px_wr (x1 + 0)).toNat q1.1) 166 (px_wr (x1 + 0)).toNat)]) (h1 := (px_G1, px_up q1.2 166 (px_wr (x1 + 0)).toNat q1.1)) rfl ?_
  refine px_D_icmp rfl (fun hc => ?_) (fun hc => ?_)
  · have hc4 : ¬ (((px_up q1.2 166 (px_wr (x1 + 0)).toNat q1.1) 166 (px_wr (x1 + 0)).toNat) = ((-1))) := of_decide_eq_true hc
    rw [if_neg hc4] at h
    refine px_D_st 9 (ip1 := 30) (ls1 := [(0, .inr (.inr 150)), (1, .inl (x1))]) (st1 := [.inl (5), .inl (0), .inl (22), .inr (.inr 150), .inl (px_wr (x1 + 1)), .inr (.inr 166)]) (h1 := (px_G1, px_up q1.2 166 (px_wr (x1 + 0)).toNat q1.1)) rfl ?_
    refine px_D_call (as := [.inr (.inr 150), .inl (22), .inl (0), .inl (5)]) (rest := [.inl (px_wr (x1 + 1)), .inr (.inr 166)]) rfl rfl rfl rfl ?_
    obtain ⟨q5, hq5, h⟩ := Option.bind_eq_some_iff.mp h
    refine px_D_mono (c_M_readTold (d := d + 0) hq5) ?_
    rintro _ _ ⟨rfl, rfl⟩
    show px_D sc (d + 5) 195 31 [(0, .inr (.inr 150)), (1, .inl (x1))] [.inl (q5.1), .inl (px_wr (x1 + 1)), .inr (.inr 166)] (px_G1, q5.2) _
    by_cases hc6 : 0 ≤ (px_wr (x1 + 1)) ∧ (px_wr (x1 + 1)) < 240
    case neg => rw [if_neg hc6] at h; cases h
    rw [if_pos hc6] at h
    refine px_D_iast (k := 161) (n := 240) rfl rfl hc6 ?_
    refine px_D_st 5 (ip1 := 37) (ls1 := [(0, .inr (.inr 150)), (1, .inl (x1))]) (st1 := [.inl (px_wr (x1 + 1)), .inr (.inr 166)]) (h1 := (px_G1, px_up q5.2 166 (px_wr (x1 + 1)).toNat q5.1)) rfl ?_
    by_cases hc7 : 0 ≤ (px_wr (x1 + 1)) ∧ (px_wr (x1 + 1)) < 240
    case neg => rw [if_neg hc7] at h; cases h
    rw [if_pos hc7] at h
    refine px_D_iald (k := 161) (n := 240) rfl rfl hc7 ?_
    refine px_D_st 1 (ip1 := 39) (ls1 := [(0, .inr (.inr 150)), (1, .inl (x1))]) (st1 := [.inl ((-1)), .inl ((px_up q5.2 166 (px_wr (x1 + 1)).toNat q5.1) 166 (px_wr (x1 + 1)).toNat)]) (h1 := (px_G1, px_up q5.2 166 (px_wr (x1 + 1)).toNat q5.1)) rfl ?_
    refine px_D_icmp rfl (fun hc => ?_) (fun hc => ?_)
    · have hc8 : ¬ (((px_up q5.2 166 (px_wr (x1 + 1)).toNat q5.1) 166 (px_wr (x1 + 1)).toNat) = ((-1))) := of_decide_eq_true hc
      rw [if_neg hc8] at h
      refine px_D_st 2 (ip1 := 44) (ls1 := [(0, .inr (.inr 150)), (1, .inl (x1))]) (st1 := [.inl (59), .inr (.inr 150)]) (h1 := (px_G1, px_up q5.2 166 (px_wr (x1 + 1)).toNat q5.1)) rfl ?_
      refine px_D_call (as := [.inr (.inr 150), .inl (59)]) (rest := []) rfl rfl rfl rfl ?_
      obtain ⟨q9, hq9, h⟩ := Option.bind_eq_some_iff.mp h
      refine px_D_mono (c_M_readMark (d := d + 1) hq9) ?_
      rintro _ _ ⟨rfl, rfl⟩
      show px_D sc (d + 5) 195 45 [(0, .inr (.inr 150)), (1, .inl (x1))] [.inl (q9.1)] (px_G1, q9.2) _
      cases h
      exact px_D_iret rfl rfl ⟨rfl, rfl⟩
    · have hc8 : ((px_up q5.2 166 (px_wr (x1 + 1)).toNat q5.1) 166 (px_wr (x1 + 1)).toNat) = ((-1)) := Decidable.of_not_not (of_decide_eq_false hc)
      rw [if_pos hc8] at h
      refine px_D_st 2 (ip1 := 45) (ls1 := [(0, .inr (.inr 150)), (1, .inl (x1))]) (st1 := [.inl ((-1))]) (h1 := (px_G1, px_up q5.2 166 (px_wr (x1 + 1)).toNat q5.1)) rfl ?_
      cases h
      exact px_D_iret rfl rfl ⟨rfl, rfl⟩
  · have hc4 : ((px_up q1.2 166 (px_wr (x1 + 0)).toNat q1.1) 166 (px_wr (x1 + 0)).toNat) = ((-1)) := Decidable.of_not_not (of_decide_eq_false hc)
    rw [if_pos hc4] at h
    refine px_D_st 1 (ip1 := 20) (ls1 := [(0, .inr (.inr 150)), (1, .inl (x1))]) (st1 := [.inl ((-1))]) (h1 := (px_G1, px_up q1.2 166 (px_wr (x1 + 0)).toNat q1.1)) rfl ?_
    cases h
    exact px_D_iret rfl rfl ⟨rfl, rfl⟩

def l_M_readHills_2 (k13 : px_Z → Option (Int × px_Z)) (k45 : px_Z → Int → Option (Int × px_Z)) : Nat → px_Z → Int → Option (Int × px_Z)
  | 0, _, _ => none
  | n + 1, s, x1 => if (f_M_isWord s 17) = (0) then (if (f_M_isWord s 21) = (0) then k45 s x1 else (if (x1) = (24) then k13 s  else (if (f_M_isWord s 17) = (0) then (f_M_readCave s (px_wr (120 + (px_wr (5 * x1))))).bind (fun q11 => if (q11.1) = ((-1)) then some (((-1), q11.2)) else l_M_readHills_2 k13 k45 n q11.2 (px_wr (x1 + 1))) else (f_M_readPass s (px_wr (120 + (px_wr (5 * x1))))).bind (fun q13 => if (q13.1) = ((-1)) then some (((-1), q13.2)) else l_M_readHills_2 k13 k45 n q13.2 (px_wr (x1 + 1)))))) else (if (x1) = (24) then k13 s  else (if (f_M_isWord s 17) = (0) then (f_M_readCave s (px_wr (120 + (px_wr (5 * x1))))).bind (fun q4 => if (q4.1) = ((-1)) then some (((-1), q4.2)) else l_M_readHills_2 k13 k45 n q4.2 (px_wr (x1 + 1))) else (f_M_readPass s (px_wr (120 + (px_wr (5 * x1))))).bind (fun q6 => if (q6.1) = ((-1)) then some (((-1), q6.2)) else l_M_readHills_2 k13 k45 n q6.2 (px_wr (x1 + 1)))))
set_option maxHeartbeats 4000000 in
set_option maxRecDepth 100000 in
theorem cl_M_readHills_2 {sc : List Int} {d : Nat} {k13 : px_Z → Option (Int × px_Z)} {k45 : px_Z → Int → Option (Int × px_Z)}  (hk13 : ∀ (s : px_Z) (out : Int × px_Z), k13 s  = some out → px_D sc (d + 6) 196 13 [(0, .inr (.inr 150))] [] (px_G1, s) (px_Qi out)) (hk45 : ∀ (s : px_Z) (y1 : Int) (out : Int × px_Z), k45 s y1 = some out → px_D sc (d + 6) 196 45 [(0, .inr (.inr 150)), (1, .inl (y1))] [] (px_G1, s) (px_Qi out)) : ∀ (n : Nat) (s : px_Z) (x1 : Int) (out : Int × px_Z), l_M_readHills_2 k13 k45 n s x1 = some out → px_D sc (d + 6) 196 2 [(0, .inr (.inr 150)), (1, .inl (x1))] [] (px_G1, s) (px_Qi out) := by
  intro n
  induction n with
  | zero => intro s x1 out h; cases h
  | succ n ih =>
    intro s x1 out h
    rw [l_M_readHills_2] at h
    refine px_D_st 2 (ip1 := 4) (ls1 := [(0, .inr (.inr 150)), (1, .inl (x1))]) (st1 := [.inl (17), .inr (.inr 150)]) (h1 := (px_G1, s)) rfl ?_
    refine px_D_call (as := [.inr (.inr 150), .inl (17)]) (rest := []) rfl rfl rfl rfl ?_
    refine px_D_mono (c_M_isWord (d := d + 5) rfl) ?_
    rintro _ _ ⟨rfl, rfl⟩
    show px_D sc (d + 6) 196 5 [(0, .inr (.inr 150)), (1, .inl (x1))] [.inl (f_M_isWord s 17)] (px_G1, s) _
    refine px_D_ifc rfl (fun hc => ?_) (fun hc => ?_)
    · have hc1 : ¬ ((f_M_isWord s 17) = (0)) := of_decide_eq_true hc
      rw [if_neg hc1] at h
      refine px_D_st 2 (ip1 := 12) (ls1 := [(0, .inr (.inr 150)), (1, .inl (x1))]) (st1 := [.inl (24), .inl (x1)]) (h1 := (px_G1, s)) rfl ?_
      refine px_D_icmp rfl (fun hc => ?_) (fun hc => ?_)
      · have hc2 : ¬ ((x1) = (24)) := of_decide_eq_true hc
        rw [if_neg hc2] at h
        refine px_D_st 8 (ip1 := 25) (ls1 := [(2, .inl (px_wr (120 + (px_wr (5 * x1))))), (0, .inr (.inr 150)), (1, .inl (x1))]) (st1 := [.inl (17), .inr (.inr 150)]) (h1 := (px_G1, s)) rfl ?_
        refine px_D_call (as := [.inr (.inr 150), .inl (17)]) (rest := []) rfl rfl rfl rfl ?_
        refine px_D_mono (c_M_isWord (d := d + 5) rfl) ?_
        rintro _ _ ⟨rfl, rfl⟩
        show px_D sc (d + 6) 196 26 [(2, .inl (px_wr (120 + (px_wr (5 * x1))))), (0, .inr (.inr 150)), (1, .inl (x1))] [.inl (f_M_isWord s 17)] (px_G1, s) _
        refine px_D_ifc rfl (fun hc => ?_) (fun hc => ?_)
        · have hc3 : (f_M_isWord s 17) = (0) := of_decide_eq_true hc
          rw [if_pos hc3] at h
          refine px_D_st 2 (ip1 := 33) (ls1 := [(2, .inl (px_wr (120 + (px_wr (5 * x1))))), (0, .inr (.inr 150)), (1, .inl (x1))]) (st1 := [.inl (px_wr (120 + (px_wr (5 * x1)))), .inr (.inr 150)]) (h1 := (px_G1, s)) rfl ?_
          refine px_D_call (as := [.inr (.inr 150), .inl (px_wr (120 + (px_wr (5 * x1))))]) (rest := []) rfl rfl rfl rfl ?_
          obtain ⟨q4, hq4, h⟩ := Option.bind_eq_some_iff.mp h
          refine px_D_mono (c_M_readCave (d := d + 0) hq4) ?_
          rintro _ _ ⟨rfl, rfl⟩
          show px_D sc (d + 6) 196 34 [(2, .inl (px_wr (120 + (px_wr (5 * x1))))), (0, .inr (.inr 150)), (1, .inl (x1))] [.inl (q4.1)] (px_G1, q4.2) _
          refine px_D_st 3 (ip1 := 37) (ls1 := [(3, .inl (q4.1)), (2, .inl (px_wr (120 + (px_wr (5 * x1))))), (0, .inr (.inr 150)), (1, .inl (x1))]) (st1 := [.inl ((-1)), .inl (q4.1)]) (h1 := (px_G1, q4.2)) rfl ?_
          refine px_D_icmp rfl (fun hc => ?_) (fun hc => ?_)
          · have hc5 : ¬ ((q4.1) = ((-1))) := of_decide_eq_true hc
            rw [if_neg hc5] at h
            refine px_D_st 5 (ip1 := 2) (ls1 := [(1, .inl (px_wr (x1 + 1))), (3, .inl (q4.1)), (2, .inl (px_wr (120 + (px_wr (5 * x1))))), (0, .inr (.inr 150))]) (st1 := []) (h1 := (px_G1, q4.2)) rfl ?_
            refine px_D_ls [(0, .inr (.inr 150)), (1, .inl (px_wr (x1 + 1)))] rfl rfl (List.forall_mem_cons.mpr ⟨rfl, List.forall_mem_cons.mpr ⟨rfl, fun _ h => absurd h List.not_mem_nil⟩⟩) ?_
            exact ih _ _ _ h
          · have hc5 : (q4.1) = ((-1)) := Decidable.of_not_not (of_decide_eq_false hc)
            rw [if_pos hc5] at h
            refine px_D_st 1 (ip1 := 39) (ls1 := [(3, .inl (q4.1)), (2, .inl (px_wr (120 + (px_wr (5 * x1))))), (0, .inr (.inr 150)), (1, .inl (x1))]) (st1 := [.inl ((-1))]) (h1 := (px_G1, q4.2)) rfl ?_
            cases h
            exact px_D_iret rfl rfl ⟨rfl, rfl⟩
        · have hc3 : ¬ ((f_M_isWord s 17) = (0)) := of_decide_eq_false hc
          rw [if_neg hc3] at h
          refine px_D_st 2 (ip1 := 29) (ls1 := [(2, .inl (px_wr (120 + (px_wr (5 * x1))))), (0, .inr (.inr 150)), (1, .inl (x1))]) (st1 := [.inl (px_wr (120 + (px_wr (5 * x1)))), .inr (.inr 150)]) (h1 := (px_G1, s)) rfl ?_
          refine px_D_call (as := [.inr (.inr 150), .inl (px_wr (120 + (px_wr (5 * x1))))]) (rest := []) rfl rfl rfl rfl ?_
          obtain ⟨q6, hq6, h⟩ := Option.bind_eq_some_iff.mp h
          refine px_D_mono (c_M_readPass (d := d + 0) hq6) ?_
          rintro _ _ ⟨rfl, rfl⟩
          show px_D sc (d + 6) 196 30 [(2, .inl (px_wr (120 + (px_wr (5 * x1))))), (0, .inr (.inr 150)), (1, .inl (x1))] [.inl (q6.1)] (px_G1, q6.2) _
          refine px_D_st 4 (ip1 := 37) (ls1 := [(3, .inl (q6.1)), (2, .inl (px_wr (120 + (px_wr (5 * x1))))), (0, .inr (.inr 150)), (1, .inl (x1))]) (st1 := [.inl ((-1)), .inl (q6.1)]) (h1 := (px_G1, q6.2)) rfl ?_
          refine px_D_icmp rfl (fun hc => ?_) (fun hc => ?_)
          · have hc7 : ¬ ((q6.1) = ((-1))) := of_decide_eq_true hc
            rw [if_neg hc7] at h
            refine px_D_st 5 (ip1 := 2) (ls1 := [(1, .inl (px_wr (x1 + 1))), (3, .inl (q6.1)), (2, .inl (px_wr (120 + (px_wr (5 * x1))))), (0, .inr (.inr 150))]) (st1 := []) (h1 := (px_G1, q6.2)) rfl ?_
            refine px_D_ls [(0, .inr (.inr 150)), (1, .inl (px_wr (x1 + 1)))] rfl rfl (List.forall_mem_cons.mpr ⟨rfl, List.forall_mem_cons.mpr ⟨rfl, fun _ h => absurd h List.not_mem_nil⟩⟩) ?_
            exact ih _ _ _ h
          · have hc7 : (q6.1) = ((-1)) := Decidable.of_not_not (of_decide_eq_false hc)
            rw [if_pos hc7] at h
            refine px_D_st 1 (ip1 := 39) (ls1 := [(3, .inl (q6.1)), (2, .inl (px_wr (120 + (px_wr (5 * x1))))), (0, .inr (.inr 150)), (1, .inl (x1))]) (st1 := [.inl ((-1))]) (h1 := (px_G1, q6.2)) rfl ?_
            cases h
            exact px_D_iret rfl rfl ⟨rfl, rfl⟩
      · have hc2 : (x1) = (24) := Decidable.of_not_not (of_decide_eq_false hc)
        rw [if_pos hc2] at h
        refine px_D_ls [(0, .inr (.inr 150))] rfl rfl (List.forall_mem_cons.mpr ⟨rfl, fun _ h => absurd h List.not_mem_nil⟩) ?_
        exact hk13 _ _ h
    · have hc1 : (f_M_isWord s 17) = (0) := Decidable.of_not_not (of_decide_eq_false hc)
      rw [if_pos hc1] at h
      refine px_D_st 2 (ip1 := 8) (ls1 := [(0, .inr (.inr 150)), (1, .inl (x1))]) (st1 := [.inl (21), .inr (.inr 150)]) (h1 := (px_G1, s)) rfl ?_
      refine px_D_call (as := [.inr (.inr 150), .inl (21)]) (rest := []) rfl rfl rfl rfl ?_
      refine px_D_mono (c_M_isWord (d := d + 5) rfl) ?_
      rintro _ _ ⟨rfl, rfl⟩
      show px_D sc (d + 6) 196 9 [(0, .inr (.inr 150)), (1, .inl (x1))] [.inl (f_M_isWord s 21)] (px_G1, s) _
      refine px_D_ifc rfl (fun hc => ?_) (fun hc => ?_)
      · have hc8 : (f_M_isWord s 21) = (0) := of_decide_eq_true hc
        rw [if_pos hc8] at h
        refine px_D_ls [(0, .inr (.inr 150)), (1, .inl (x1))] rfl rfl (List.forall_mem_cons.mpr ⟨rfl, List.forall_mem_cons.mpr ⟨rfl, fun _ h => absurd h List.not_mem_nil⟩⟩) ?_
        exact hk45 _ _ _ h
      · have hc8 : ¬ ((f_M_isWord s 21) = (0)) := of_decide_eq_false hc
        rw [if_neg hc8] at h
        refine px_D_st 2 (ip1 := 12) (ls1 := [(0, .inr (.inr 150)), (1, .inl (x1))]) (st1 := [.inl (24), .inl (x1)]) (h1 := (px_G1, s)) rfl ?_
        refine px_D_icmp rfl (fun hc => ?_) (fun hc => ?_)
        · have hc9 : ¬ ((x1) = (24)) := of_decide_eq_true hc
          rw [if_neg hc9] at h
          refine px_D_st 8 (ip1 := 25) (ls1 := [(2, .inl (px_wr (120 + (px_wr (5 * x1))))), (0, .inr (.inr 150)), (1, .inl (x1))]) (st1 := [.inl (17), .inr (.inr 150)]) (h1 := (px_G1, s)) rfl ?_
          refine px_D_call (as := [.inr (.inr 150), .inl (17)]) (rest := []) rfl rfl rfl rfl ?_
          refine px_D_mono (c_M_isWord (d := d + 5) rfl) ?_
          rintro _ _ ⟨rfl, rfl⟩
          show px_D sc (d + 6) 196 26 [(2, .inl (px_wr (120 + (px_wr (5 * x1))))), (0, .inr (.inr 150)), (1, .inl (x1))] [.inl (f_M_isWord s 17)] (px_G1, s) _
          refine px_D_ifc rfl (fun hc => ?_) (fun hc => ?_)
          · have hc10 : (f_M_isWord s 17) = (0) := of_decide_eq_true hc
            rw [if_pos hc10] at h
            refine px_D_st 2 (ip1 := 33) (ls1 := [(2, .inl (px_wr (120 + (px_wr (5 * x1))))), (0, .inr (.inr 150)), (1, .inl (x1))]) (st1 := [.inl (px_wr (120 + (px_wr (5 * x1)))), .inr (.inr 150)]) (h1 := (px_G1, s)) rfl ?_
            refine px_D_call (as := [.inr (.inr 150), .inl (px_wr (120 + (px_wr (5 * x1))))]) (rest := []) rfl rfl rfl rfl ?_
            obtain ⟨q11, hq11, h⟩ := Option.bind_eq_some_iff.mp h
            refine px_D_mono (c_M_readCave (d := d + 0) hq11) ?_
            rintro _ _ ⟨rfl, rfl⟩
            show px_D sc (d + 6) 196 34 [(2, .inl (px_wr (120 + (px_wr (5 * x1))))), (0, .inr (.inr 150)), (1, .inl (x1))] [.inl (q11.1)] (px_G1, q11.2) _
            refine px_D_st 3 (ip1 := 37) (ls1 := [(3, .inl (q11.1)), (2, .inl (px_wr (120 + (px_wr (5 * x1))))), (0, .inr (.inr 150)), (1, .inl (x1))]) (st1 := [.inl ((-1)), .inl (q11.1)]) (h1 := (px_G1, q11.2)) rfl ?_
            refine px_D_icmp rfl (fun hc => ?_) (fun hc => ?_)
            · have hc12 : ¬ ((q11.1) = ((-1))) := of_decide_eq_true hc
              rw [if_neg hc12] at h
              refine px_D_st 5 (ip1 := 2) (ls1 := [(1, .inl (px_wr (x1 + 1))), (3, .inl (q11.1)), (2, .inl (px_wr (120 + (px_wr (5 * x1))))), (0, .inr (.inr 150))]) (st1 := []) (h1 := (px_G1, q11.2)) rfl ?_
              refine px_D_ls [(0, .inr (.inr 150)), (1, .inl (px_wr (x1 + 1)))] rfl rfl (List.forall_mem_cons.mpr ⟨rfl, List.forall_mem_cons.mpr ⟨rfl, fun _ h => absurd h List.not_mem_nil⟩⟩) ?_
              exact ih _ _ _ h
            · have hc12 : (q11.1) = ((-1)) := Decidable.of_not_not (of_decide_eq_false hc)
              rw [if_pos hc12] at h
              refine px_D_st 1 (ip1 := 39) (ls1 := [(3, .inl (q11.1)), (2, .inl (px_wr (120 + (px_wr (5 * x1))))), (0, .inr (.inr 150)), (1, .inl (x1))]) (st1 := [.inl ((-1))]) (h1 := (px_G1, q11.2)) rfl ?_
              cases h
              exact px_D_iret rfl rfl ⟨rfl, rfl⟩
          · have hc10 : ¬ ((f_M_isWord s 17) = (0)) := of_decide_eq_false hc
            rw [if_neg hc10] at h
            refine px_D_st 2 (ip1 := 29) (ls1 := [(2, .inl (px_wr (120 + (px_wr (5 * x1))))), (0, .inr (.inr 150)), (1, .inl (x1))]) (st1 := [.inl (px_wr (120 + (px_wr (5 * x1)))), .inr (.inr 150)]) (h1 := (px_G1, s)) rfl ?_
            refine px_D_call (as := [.inr (.inr 150), .inl (px_wr (120 + (px_wr (5 * x1))))]) (rest := []) rfl rfl rfl rfl ?_
            obtain ⟨q13, hq13, h⟩ := Option.bind_eq_some_iff.mp h
            refine px_D_mono (c_M_readPass (d := d + 0) hq13) ?_
            rintro _ _ ⟨rfl, rfl⟩
            show px_D sc (d + 6) 196 30 [(2, .inl (px_wr (120 + (px_wr (5 * x1))))), (0, .inr (.inr 150)), (1, .inl (x1))] [.inl (q13.1)] (px_G1, q13.2) _
            refine px_D_st 4 (ip1 := 37) (ls1 := [(3, .inl (q13.1)), (2, .inl (px_wr (120 + (px_wr (5 * x1))))), (0, .inr (.inr 150)), (1, .inl (x1))]) (st1 := [.inl ((-1)), .inl (q13.1)]) (h1 := (px_G1, q13.2)) rfl ?_
            refine px_D_icmp rfl (fun hc => ?_) (fun hc => ?_)
            · have hc14 : ¬ ((q13.1) = ((-1))) := of_decide_eq_true hc
              rw [if_neg hc14] at h
              refine px_D_st 5 (ip1 := 2) (ls1 := [(1, .inl (px_wr (x1 + 1))), (3, .inl (q13.1)), (2, .inl (px_wr (120 + (px_wr (5 * x1))))), (0, .inr (.inr 150))]) (st1 := []) (h1 := (px_G1, q13.2)) rfl ?_
              refine px_D_ls [(0, .inr (.inr 150)), (1, .inl (px_wr (x1 + 1)))] rfl rfl (List.forall_mem_cons.mpr ⟨rfl, List.forall_mem_cons.mpr ⟨rfl, fun _ h => absurd h List.not_mem_nil⟩⟩) ?_
              exact ih _ _ _ h
            · have hc14 : (q13.1) = ((-1)) := Decidable.of_not_not (of_decide_eq_false hc)
              rw [if_pos hc14] at h
              refine px_D_st 1 (ip1 := 39) (ls1 := [(3, .inl (q13.1)), (2, .inl (px_wr (120 + (px_wr (5 * x1))))), (0, .inr (.inr 150)), (1, .inl (x1))]) (st1 := [.inl ((-1))]) (h1 := (px_G1, q13.2)) rfl ?_
              cases h
              exact px_D_iret rfl rfl ⟨rfl, rfl⟩
        · have hc9 : (x1) = (24) := Decidable.of_not_not (of_decide_eq_false hc)
          rw [if_pos hc9] at h
          refine px_D_ls [(0, .inr (.inr 150))] rfl rfl (List.forall_mem_cons.mpr ⟨rfl, fun _ h => absurd h List.not_mem_nil⟩) ?_
          exact hk13 _ _ h
def f_M_readHills (s : px_Z) : Option (Int × px_Z) := l_M_readHills_2 (fun s => (f_M_errs s 3).bind (fun q15 => some (q15.1, q15.2))) (fun s x1 => if (s 150 16) = (0) then some (x1, s) else (f_M_errs s 1).bind (fun q17 => some (q17.1, q17.2))) px_big s 0
set_option maxHeartbeats 4000000 in
set_option maxRecDepth 100000 in
theorem c_M_readHills {sc : List Int} {d : Nat} {s : px_Z} {out : Int × px_Z} (h : f_M_readHills s  = some out) : px_D sc (d + 6) 196 0 [(0, .inr (.inr 150))] [] (px_G1, s) (px_Qi out) := by
  unfold f_M_readHills at h
  refine px_D_st 2 (ip1 := 2) (ls1 := [(1, .inl (0)), (0, .inr (.inr 150))]) (st1 := []) (h1 := (px_G1, s)) rfl ?_
  refine px_D_ls [(0, .inr (.inr 150)), (1, .inl (0))] rfl rfl (List.forall_mem_cons.mpr ⟨rfl, List.forall_mem_cons.mpr ⟨rfl, fun _ h => absurd h List.not_mem_nil⟩⟩) ?_
  refine cl_M_readHills_2 ?_ ?_ px_big _ _ _ h
  · intro s out h
    refine px_D_st 2 (ip1 := 15) (ls1 := [(0, .inr (.inr 150))]) (st1 := [.inl (3), .inr (.inr 150)]) (h1 := (px_G1, s)) rfl ?_
    refine px_D_call (as := [.inr (.inr 150), .inl (3)]) (rest := []) rfl rfl rfl rfl ?_
    obtain ⟨q15, hq15, h⟩ := Option.bind_eq_some_iff.mp h
    refine px_D_mono (c_M_errs (d := d + 5) hq15) ?_
    rintro _ _ ⟨rfl, rfl⟩
    show px_D sc (d + 6) 196 16 [(0, .inr (.inr 150))] [.inl (q15.1)] (px_G1, q15.2) _
    cases h
    exact px_D_iret rfl rfl ⟨rfl, rfl⟩
  · intro s x1 out h
    refine px_D_st 2 (ip1 := 47) (ls1 := [(0, .inr (.inr 150)), (1, .inl (x1))]) (st1 := [.inl (s 150 16)]) (h1 := (px_G1, s)) rfl ?_
    refine px_D_ifc rfl (fun hc => ?_) (fun hc => ?_)
    · have hc16 : ¬ ((s 150 16) = (0)) := of_decide_eq_true hc
      rw [if_neg hc16] at h
      refine px_D_st 2 (ip1 := 52) (ls1 := [(0, .inr (.inr 150)), (1, .inl (x1))]) (st1 := [.inl (1), .inr (.inr 150)]) (h1 := (px_G1, s)) rfl ?_
      refine px_D_call (as := [.inr (.inr 150), .inl (1)]) (rest := []) rfl rfl rfl rfl ?_
      obtain ⟨q17, hq17, h⟩ := Option.bind_eq_some_iff.mp h
      refine px_D_mono (c_M_errs (d := d + 5) hq17) ?_
      rintro _ _ ⟨rfl, rfl⟩
      show px_D sc (d + 6) 196 53 [(0, .inr (.inr 150)), (1, .inl (x1))] [.inl (q17.1)] (px_G1, q17.2) _
      cases h
      exact px_D_iret rfl rfl ⟨rfl, rfl⟩
    · have hc16 : (s 150 16) = (0) := Decidable.of_not_not (of_decide_eq_false hc)
      rw [if_pos hc16] at h
      refine px_D_st 2 (ip1 := 53) (ls1 := [(0, .inr (.inr 150)), (1, .inl (x1))]) (st1 := [.inl (x1)]) (h1 := (px_G1, s)) rfl ?_
      cases h
      exact px_D_iret rfl rfl ⟨rfl, rfl⟩

def f_M_readOther (s : px_Z) (x1 : Int) : Option (Int × px_Z) := if (s 150 16) = (3) then (if (s 150 6) ≤ (s 150 17) then (f_M_errs s 2).bind (fun q3 => some (q3.1, q3.2)) else (if (s 150 17) = (x1) then (f_M_errs s 2).bind (fun q8 => some (q8.1, q8.2)) else (if 0 ≤ (px_wr (8 + x1)) ∧ (px_wr (8 + x1)) < 16 then if 0 ≤ (px_wr (8 + x1)) ∧ (px_wr (8 + x1)) < 16 then (f_M_reads (px_up s 167 (px_wr (8 + x1)).toNat (px_or ((s 167 (px_wr (8 + x1)).toNat)) ((px_shl (1) ((s 150 17)))))) ).bind (fun q7 => some (0, q7)) else none else none))) else (f_M_errs s 1).bind (fun q9 => some (q9.1, q9.2))
set_option maxHeartbeats 4000000 in
set_option maxRecDepth 100000 in
theorem c_M_readOther {sc : List Int} {d : Nat} {s : px_Z} {x1 : Int} {out : Int × px_Z} (h : f_M_readOther s x1 = some out) : px_D sc (d + 3) 197 0 [(0, .inr (.inr 150)), (1, .inl (x1))] [] (px_G1, s) (px_Qi out) := by
  unfold f_M_readOther at h
  refine px_D_st 3 (ip1 := 3) (ls1 := [(0, .inr (.inr 150)), (1, .inl (x1))]) (st1 := [.inl (3), .inl (s 150 16)]) (h1 := (px_G1, s)) rfl ?_
  refine px_D_icmp rfl (fun hc => ?_) (fun hc => ?_)
  · have hc1 : (s 150 16) = (3) := of_decide_eq_true hc
    rw [if_pos hc1] at h
    refine px_D_st 4 (ip1 := 12) (ls1 := [(0, .inr (.inr 150)), (1, .inl (x1))]) (st1 := [.inl (s 150 6), .inl (s 150 17)]) (h1 := (px_G1, s)) rfl ?_
    refine px_D_icmp rfl (fun hc => ?_) (fun hc => ?_)
    · have hc2 : (s 150 6) ≤ (s 150 17) := of_decide_eq_true hc
      rw [if_pos hc2] at h
      refine px_D_st 2 (ip1 := 19) (ls1 := [(0, .inr (.inr 150)), (1, .inl (x1))]) (st1 := [.inl (2), .inr (.inr 150)]) (h1 := (px_G1, s)) rfl ?_
      refine px_D_call (as := [.inr (.inr 150), .inl (2)]) (rest := []) rfl rfl rfl rfl ?_
      obtain ⟨q3, hq3, h⟩ := Option.bind_eq_some_iff.mp h
      refine px_D_mono (c_M_errs (d := d + 2) hq3) ?_
      rintro _ _ ⟨rfl, rfl⟩
      show px_D sc (d + 3) 197 20 [(0, .inr (.inr 150)), (1, .inl (x1))] [.inl (q3.1)] (px_G1, q3.2) _
      cases h
      exact px_D_iret rfl rfl ⟨rfl, rfl⟩
    · have hc2 : ¬ ((s 150 6) ≤ (s 150 17)) := of_decide_eq_false hc
      rw [if_neg hc2] at h
      refine px_D_st 3 (ip1 := 16) (ls1 := [(0, .inr (.inr 150)), (1, .inl (x1))]) (st1 := [.inl (x1), .inl (s 150 17)]) (h1 := (px_G1, s)) rfl ?_
      refine px_D_icmp rfl (fun hc => ?_) (fun hc => ?_)
      · have hc4 : ¬ ((s 150 17) = (x1)) := of_decide_eq_true hc
        rw [if_neg hc4] at h
        refine px_D_st 10 (ip1 := 31) (ls1 := [(0, .inr (.inr 150)), (1, .inl (x1))]) (st1 := [.inl (px_wr (8 + x1)), .inr (.inr 167), .inl (px_wr (8 + x1)), .inr (.inr 167)]) (h1 := (px_G1, s)) rfl ?_
        by_cases hc5 : 0 ≤ (px_wr (8 + x1)) ∧ (px_wr (8 + x1)) < 16
        case neg => rw [if_neg hc5] at h; cases h
        rw [if_pos hc5] at h
        refine px_D_iald (k := 162) (n := 16) rfl rfl hc5 ?_
        refine px_D_st 5 (ip1 := 37) (ls1 := [(0, .inr (.inr 150)), (1, .inl (x1))]) (st1 := [.inl (px_or ((s 167 (px_wr (8 + x1)).toNat)) ((px_shl (1) ((s 150 17))))), .inl (px_wr (8 + x1)), .inr (.inr 167)]) (h1 := (px_G1, s)) rfl ?_
        by_cases hc6 : 0 ≤ (px_wr (8 + x1)) ∧ (px_wr (8 + x1)) < 16
        case neg => rw [if_neg hc6] at h; cases h
        rw [if_pos hc6] at h
        refine px_D_iast (k := 162) (n := 16) rfl rfl hc6 ?_
        refine px_D_st 1 (ip1 := 39) (ls1 := [(0, .inr (.inr 150)), (1, .inl (x1))]) (st1 := [.inr (.inr 150)]) (h1 := (px_G1, px_up s 167 (px_wr (8 + x1)).toNat (px_or ((s 167 (px_wr (8 + x1)).toNat)) ((px_shl (1) ((s 150 17))))))) rfl ?_
        refine px_D_call (as := [.inr (.inr 150)]) (rest := []) rfl rfl rfl rfl ?_
        obtain ⟨q7, hq7, h⟩ := Option.bind_eq_some_iff.mp h
        refine px_D_mono (c_M_reads (d := d + 0) hq7) ?_
        rintro _ _ ⟨rfl, rfl⟩
        show px_D sc (d + 3) 197 40 [(0, .inr (.inr 150)), (1, .inl (x1))] [] (px_G1, q7) _
        refine px_D_st 1 (ip1 := 41) (ls1 := [(0, .inr (.inr 150)), (1, .inl (x1))]) (st1 := [.inl (0)]) (h1 := (px_G1, q7)) rfl ?_
        cases h
        exact px_D_iret rfl rfl ⟨rfl, rfl⟩
      · have hc4 : (s 150 17) = (x1) := Decidable.of_not_not (of_decide_eq_false hc)
        rw [if_pos hc4] at h
        refine px_D_st 2 (ip1 := 19) (ls1 := [(0, .inr (.inr 150)), (1, .inl (x1))]) (st1 := [.inl (2), .inr (.inr 150)]) (h1 := (px_G1, s)) rfl ?_
        refine px_D_call (as := [.inr (.inr 150), .inl (2)]) (rest := []) rfl rfl rfl rfl ?_
        obtain ⟨q8, hq8, h⟩ := Option.bind_eq_some_iff.mp h
        refine px_D_mono (c_M_errs (d := d + 2) hq8) ?_
        rintro _ _ ⟨rfl, rfl⟩
        show px_D sc (d + 3) 197 20 [(0, .inr (.inr 150)), (1, .inl (x1))] [.inl (q8.1)] (px_G1, q8.2) _
        cases h
        exact px_D_iret rfl rfl ⟨rfl, rfl⟩
  · have hc1 : ¬ ((s 150 16) = (3)) := of_decide_eq_false hc
    rw [if_neg hc1] at h
    refine px_D_st 2 (ip1 := 6) (ls1 := [(0, .inr (.inr 150)), (1, .inl (x1))]) (st1 := [.inl (1), .inr (.inr 150)]) (h1 := (px_G1, s)) rfl ?_
    refine px_D_call (as := [.inr (.inr 150), .inl (1)]) (rest := []) rfl rfl rfl rfl ?_
    obtain ⟨q9, hq9, h⟩ := Option.bind_eq_some_iff.mp h
    refine px_D_mono (c_M_errs (d := d + 2) hq9) ?_
    rintro _ _ ⟨rfl, rfl⟩
    show px_D sc (d + 3) 197 7 [(0, .inr (.inr 150)), (1, .inl (x1))] [.inl (q9.1)] (px_G1, q9.2) _
    cases h
    exact px_D_iret rfl rfl ⟨rfl, rfl⟩
