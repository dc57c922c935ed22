def l_M_readAfterLine_23 (k34 : px_Z → Option (Int × px_Z)) : Nat → px_Z → Int → Option (Int × px_Z)
  | 0, _, _ => none
  | n + 1, s, x1 => if (s 150 16) = (3) then (f_M_readOther s x1).bind (fun q8 => if (q8.1) = ((-1)) then some (((-1), q8.2)) else l_M_readAfterLine_23 k34 n q8.2 x1) else k34 s 
set_option maxHeartbeats 4000000 in
set_option maxRecDepth 100000 in
theorem cl_M_readAfterLine_23 {sc : List Int} {d : Nat} {k34 : px_Z → Option (Int × px_Z)}  (hk34 : ∀ (s : px_Z) (out : Int × px_Z), k34 s  = some out → px_D sc (d + 4) 198 34 [(0, .inr (.inr 150))] [] (px_G1, s) (px_Qi out)) : ∀ (n : Nat) (s : px_Z) (x1 : Int) (out : Int × px_Z), l_M_readAfterLine_23 k34 n s x1 = some out → px_D sc (d + 4) 198 23 [(0, .inr (.inr 150)), (1, .inl (x1))] [] (px_G1, s) (px_Qi out) := by
  intro n
  induction n with
  | zero => intro s x1 out h; cases h
  | succ n ih =>
    intro s x1 out h
    rw [l_M_readAfterLine_23] at h
    refine px_D_st 3 (ip1 := 26) (ls1 := [(0, .inr (.inr 150)), (1, .inl (x1))]) (st1 := [.inl (3), .inl (s 150 16)]) (h1 := (px_G1, s)) rfl ?_
    refine px_D_icmp rfl (fun hc => ?_) (fun hc => ?_)
    · have hc7 : ¬ ((s 150 16) = (3)) := of_decide_eq_true hc
      rw [if_neg hc7] at h
      refine px_D_ls [(0, .inr (.inr 150))] rfl rfl (List.forall_mem_cons.mpr ⟨rfl, fun _ h => absurd h List.not_mem_nil⟩) ?_
      exact hk34 _ _ h
    · have hc7 : (s 150 16) = (3) := Decidable.of_not_not (of_decide_eq_false hc)
      rw [if_pos hc7] at h
      refine px_D_st 2 (ip1 := 29) (ls1 := [(0, .inr (.inr 150)), (1, .inl (x1))]) (st1 := [.inl (x1), .inr (.inr 150)]) (h1 := (px_G1, s)) rfl ?_
      refine px_D_call (as := [.inr (.inr 150), .inl (x1)]) (rest := []) rfl rfl rfl rfl ?_
      obtain ⟨q8, hq8, h⟩ := Option.bind_eq_some_iff.mp h
      refine px_D_mono (c_M_readOther (d := d + 0) hq8) ?_
      rintro _ _ ⟨rfl, rfl⟩
      show px_D sc (d + 4) 198 30 [(0, .inr (.inr 150)), (1, .inl (x1))] [.inl (q8.1)] (px_G1, q8.2) _
      refine px_D_st 1 (ip1 := 31) (ls1 := [(0, .inr (.inr 150)), (1, .inl (x1))]) (st1 := [.inl ((-1)), .inl (q8.1)]) (h1 := (px_G1, q8.2)) rfl ?_
      refine px_D_icmp rfl (fun hc => ?_) (fun hc => ?_)
      · have hc9 : ¬ ((q8.1) = ((-1))) := of_decide_eq_true hc
        rw [if_neg hc9] at h
        refine px_D_ls [(0, .inr (.inr 150)), (1, .inl (x1))] rfl rfl (List.forall_mem_cons.mpr ⟨rfl, List.forall_mem_cons.mpr ⟨rfl, fun _ h => absurd h List.not_mem_nil⟩⟩) ?_
        exact ih _ _ _ h
      · have hc9 : (q8.1) = ((-1)) := Decidable.of_not_not (of_decide_eq_false hc)
        rw [if_pos hc9] at h
        refine px_D_st 1 (ip1 := 33) (ls1 := [(0, .inr (.inr 150)), (1, .inl (x1))]) (st1 := [.inl ((-1))]) (h1 := (px_G1, q8.2)) rfl ?_
        cases h
        exact px_D_iret rfl rfl ⟨rfl, rfl⟩
def f_M_readAfterLine (s : px_Z) : Option (Int × px_Z) := (f_M_readNumber s 0 (px_wr ((s 150 6) - 1))).bind (fun q1 => if (q1.1) = ((-1)) then some (((-1), q1.2)) else (f_M_readWord q1.2 23).bind (fun q3 => if (q3.1) = ((-1)) then some (((-1), q3.2)) else (f_M_readOther q3.2 q1.1).bind (fun q5 => if (q5.1) = ((-1)) then some (((-1), q5.2)) else l_M_readAfterLine_23 (fun s => (f_M_readMark s 59).bind (fun q10 => some (q10.1, q10.2))) px_big q5.2 q1.1)))
set_option maxHeartbeats 4000000 in
set_option maxRecDepth 100000 in
theorem c_M_readAfterLine {sc : List Int} {d : Nat} {s : px_Z} {out : Int × px_Z} (h : f_M_readAfterLine s  = some out) : px_D sc (d + 4) 198 0 [(0, .inr (.inr 150))] [] (px_G1, s) (px_Qi out) := by
  unfold f_M_readAfterLine at h
  refine px_D_st 6 (ip1 := 6) (ls1 := [(0, .inr (.inr 150))]) (st1 := [.inl (px_wr ((s 150 6) - 1)), .inl (0), .inr (.inr 150)]) (h1 := (px_G1, s)) rfl ?_
  refine px_D_call (as := [.inr (.inr 150), .inl (0), .inl (px_wr ((s 150 6) - 1))]) (rest := []) rfl rfl rfl rfl ?_
  obtain ⟨q1, hq1, h⟩ := Option.bind_eq_some_iff.mp h
  refine px_D_mono (c_M_readNumber (d := d + 0) hq1) ?_
  rintro _ _ ⟨rfl, rfl⟩
  show px_D sc (d + 4) 198 7 [(0, .inr (.inr 150))] [.inl (q1.1)] (px_G1, q1.2) _
  refine px_D_st 3 (ip1 := 10) (ls1 := [(1, .inl (q1.1)), (0, .inr (.inr 150))]) (st1 := [.inl ((-1)), .inl (q1.1)]) (h1 := (px_G1, q1.2)) rfl ?_
  refine px_D_icmp rfl (fun hc => ?_) (fun hc => ?_)
  · have hc2 : (q1.1) = ((-1)) := of_decide_eq_true hc
    rw [if_pos hc2] at h
    refine px_D_st 1 (ip1 := 22) (ls1 := [(1, .inl (q1.1)), (0, .inr (.inr 150))]) (st1 := [.inl ((-1))]) (h1 := (px_G1, q1.2)) rfl ?_
    cases h
    exact px_D_iret rfl rfl ⟨rfl, rfl⟩
  · have hc2 : ¬ ((q1.1) = ((-1))) := of_decide_eq_false hc
    rw [if_neg hc2] at h
    refine px_D_st 2 (ip1 := 13) (ls1 := [(1, .inl (q1.1)), (0, .inr (.inr 150))]) (st1 := [.inl (23), .inr (.inr 150)]) (h1 := (px_G1, q1.2)) rfl ?_
    refine px_D_call (as := [.inr (.inr 150), .inl (23)]) (rest := []) rfl rfl rfl rfl ?_
    obtain ⟨q3, hq3, h⟩ := Option.bind_eq_some_iff.mp h
    refine px_D_mono (c_M_readWord (d := d + 0) hq3) ?_
    rintro _ _ ⟨rfl, rfl⟩
    show px_D sc (d + 4) 198 14 [(1, .inl (q1.1)), (0, .inr (.inr 150))] [.inl (q3.1)] (px_G1, q3.2) _
    refine px_D_st 1 (ip1 := 15) (ls1 := [(1, .inl (q1.1)), (0, .inr (.inr 150))]) (st1 := [.inl ((-1)), .inl (q3.1)]) (h1 := (px_G1, q3.2)) rfl ?_
    refine px_D_icmp rfl (fun hc => ?_) (fun hc => ?_)
    · have hc4 : (q3.1) = ((-1)) := of_decide_eq_true hc
      rw [if_pos hc4] at h
      refine px_D_st 1 (ip1 := 22) (ls1 := [(1, .inl (q1.1)), (0, .inr (.inr 150))]) (st1 := [.inl ((-1))]) (h1 := (px_G1, q3.2)) rfl ?_
      cases h
      exact px_D_iret rfl rfl ⟨rfl, rfl⟩
    · have hc4 : ¬ ((q3.1) = ((-1))) := of_decide_eq_false hc
      rw [if_neg hc4] at h
      refine px_D_st 2 (ip1 := 18) (ls1 := [(1, .inl (q1.1)), (0, .inr (.inr 150))]) (st1 := [.inl (q1.1), .inr (.inr 150)]) (h1 := (px_G1, q3.2)) rfl ?_
      refine px_D_call (as := [.inr (.inr 150), .inl (q1.1)]) (rest := []) rfl rfl rfl rfl ?_
      obtain ⟨q5, hq5, h⟩ := Option.bind_eq_some_iff.mp h
      refine px_D_mono (c_M_readOther (d := d + 0) hq5) ?_
      rintro _ _ ⟨rfl, rfl⟩
      show px_D sc (d + 4) 198 19 [(1, .inl (q1.1)), (0, .inr (.inr 150))] [.inl (q5.1)] (px_G1, q5.2) _
      refine px_D_st 1 (ip1 := 20) (ls1 := [(1, .inl (q1.1)), (0, .inr (.inr 150))]) (st1 := [.inl ((-1)), .inl (q5.1)]) (h1 := (px_G1, q5.2)) rfl ?_
      refine px_D_icmp rfl (fun hc => ?_) (fun hc => ?_)
      · have hc6 : ¬ ((q5.1) = ((-1))) := of_decide_eq_true hc
        rw [if_neg hc6] at h
        refine px_D_ls [(0, .inr (.inr 150)), (1, .inl (q1.1))] rfl rfl (List.forall_mem_cons.mpr ⟨rfl, List.forall_mem_cons.mpr ⟨rfl, fun _ h => absurd h List.not_mem_nil⟩⟩) ?_
        refine cl_M_readAfterLine_23 ?_ px_big _ _ _ h
        · intro s out h
          refine px_D_st 2 (ip1 := 36) (ls1 := [(0, .inr (.inr 150))]) (st1 := [.inl (59), .inr (.inr 150)]) (h1 := (px_G1, s)) rfl ?_
          refine px_D_call (as := [.inr (.inr 150), .inl (59)]) (rest := []) rfl rfl rfl rfl ?_
          obtain ⟨q10, hq10, h⟩ := Option.bind_eq_some_iff.mp h
          refine px_D_mono (c_M_readMark (d := d + 0) hq10) ?_
          rintro _ _ ⟨rfl, rfl⟩
          show px_D sc (d + 4) 198 37 [(0, .inr (.inr 150))] [.inl (q10.1)] (px_G1, q10.2) _
          cases h
          exact px_D_iret rfl rfl ⟨rfl, rfl⟩
      · have hc6 : (q5.1) = ((-1)) := Decidable.of_not_not (of_decide_eq_false hc)
        rw [if_pos hc6] at h
        refine px_D_st 1 (ip1 := 22) (ls1 := [(1, .inl (q1.1)), (0, .inr (.inr 150))]) (st1 := [.inl ((-1))]) (h1 := (px_G1, q5.2)) rfl ?_
        cases h
        exact px_D_iret rfl rfl ⟨rfl, rfl⟩

def l_M_readAfter_2 (k14 : px_Z → Option (Int × px_Z)) : Nat → px_Z → Int → Option (Int × px_Z)
  | 0, _, _ => none
  | n + 1, s, x1 => if (8) ≤ (x1) then k14 s  else (if 0 ≤ (px_wr (8 + x1)) ∧ (px_wr (8 + x1)) < 16 then l_M_readAfter_2 k14 n (px_up s 167 (px_wr (8 + x1)).toNat 0) (px_wr (x1 + 1)) else none)
set_option maxHeartbeats 4000000 in
set_option maxRecDepth 100000 in
theorem cl_M_readAfter_2 {sc : List Int} {d : Nat} {k14 : px_Z → Option (Int × px_Z)}  (hk14 : ∀ (s : px_Z) (out : Int × px_Z), k14 s  = some out → px_D sc (d + 5) 199 14 [(0, .inr (.inr 150))] [] (px_G1, s) (px_Qi out)) : ∀ (n : Nat) (s : px_Z) (x1 : Int) (out : Int × px_Z), l_M_readAfter_2 k14 n s x1 = some out → px_D sc (d + 5) 199 2 [(0, .inr (.inr 150)), (1, .inl (x1))] [] (px_G1, s) (px_Qi out) := by
  intro n
  induction n with
  | zero => intro s x1 out h; cases h
  | succ n ih =>
    intro s x1 out h
    rw [l_M_readAfter_2] at h
    refine px_D_st 2 (ip1 := 4) (ls1 := [(0, .inr (.inr 150)), (1, .inl (x1))]) (st1 := [.inl (8), .inl (x1)]) (h1 := (px_G1, s)) rfl ?_
    refine px_D_icmp rfl (fun hc => ?_) (fun hc => ?_)
    · have hc1 : (8) ≤ (x1) := of_decide_eq_true hc
      rw [if_pos hc1] at h
      refine px_D_ls [(0, .inr (.inr 150))] rfl rfl (List.forall_mem_cons.mpr ⟨rfl, fun _ h => absurd h List.not_mem_nil⟩) ?_
      exact hk14 _ _ h
    · have hc1 : ¬ ((8) ≤ (x1)) := of_decide_eq_false hc
      rw [if_neg hc1] at h
      refine px_D_st 6 (ip1 := 11) (ls1 := [(0, .inr (.inr 150)), (1, .inl (x1))]) (st1 := [.inl (0), .inl (px_wr (8 + x1)), .inr (.inr 167)]) (h1 := (px_G1, s)) rfl ?_
      by_cases hc2 : 0 ≤ (px_wr (8 + x1)) ∧ (px_wr (8 + x1)) < 16
      case neg => rw [if_neg hc2] at h; cases h
      rw [if_pos hc2] at h
      refine px_D_iast (k := 162) (n := 16) rfl rfl hc2 ?_
      refine px_D_st 2 (ip1 := 2) (ls1 := [(1, .inl (px_wr (x1 + 1))), (0, .inr (.inr 150))]) (st1 := []) (h1 := (px_G1, px_up s 167 (px_wr (8 + x1)).toNat 0)) rfl ?_
      refine px_D_ls [(0, .inr (.inr 150)), (1, .inl (px_wr (x1 + 1)))] rfl rfl (List.forall_mem_cons.mpr ⟨rfl, List.forall_mem_cons.mpr ⟨rfl, fun _ h => absurd h List.not_mem_nil⟩⟩) ?_
      exact ih _ _ _ h
def l_M_readAfter_16 (k23 : px_Z → Option (Int × px_Z)) (k45 : px_Z → Int → Option (Int × px_Z)) : Nat → px_Z → Int → Option (Int × px_Z)
  | 0, _, _ => none
  | n + 1, s, x1 => if (s 150 16) = (3) then (if (x1) = (12) then k23 s  else (f_M_readAfterLine s ).bind (fun q5 => if (q5.1) = ((-1)) then some (((-1), q5.2)) else l_M_readAfter_16 k23 k45 n q5.2 (px_wr (x1 + 1)))) else k45 s x1
set_option maxHeartbeats 4000000 in
set_option maxRecDepth 100000 in
theorem cl_M_readAfter_16 {sc : List Int} {d : Nat} {k23 : px_Z → Option (Int × px_Z)} {k45 : px_Z → Int → Option (Int × px_Z)}  (hk23 : ∀ (s : px_Z) (out : Int × px_Z), k23 s  = some out → px_D sc (d + 5) 199 23 [(0, .inr (.inr 150))] [] (px_G1, s) (px_Qi out)) (hk45 : ∀ (s : px_Z) (y1 : Int) (out : Int × px_Z), k45 s y1 = some out → px_D sc (d + 5) 199 45 [(0, .inr (.inr 150)), (1, .inl (y1))] [] (px_G1, s) (px_Qi out)) : ∀ (n : Nat) (s : px_Z) (x1 : Int) (out : Int × px_Z), l_M_readAfter_16 k23 k45 n s x1 = some out → px_D sc (d + 5) 199 16 [(0, .inr (.inr 150)), (1, .inl (x1))] [] (px_G1, s) (px_Qi out) := by
  intro n
  induction n with
  | zero => intro s x1 out h; cases h
  | succ n ih =>
    intro s x1 out h
    rw [l_M_readAfter_16] at h
    refine px_D_st 3 (ip1 := 19) (ls1 := [(0, .inr (.inr 150)), (1, .inl (x1))]) (st1 := [.inl (3), .inl (s 150 16)]) (h1 := (px_G1, s)) rfl ?_
    refine px_D_icmp rfl (fun hc => ?_) (fun hc => ?_)
    · have hc3 : ¬ ((s 150 16) = (3)) := of_decide_eq_true hc
      rw [if_neg hc3] at h
      refine px_D_ls [(0, .inr (.inr 150)), (1, .inl (x1))] rfl rfl (List.forall_mem_cons.mpr ⟨rfl, List.forall_mem_cons.mpr ⟨rfl, fun _ h => absurd h List.not_mem_nil⟩⟩) ?_
      exact hk45 _ _ _ h
    · have hc3 : (s 150 16) = (3) := Decidable.of_not_not (of_decide_eq_false hc)
      rw [if_pos hc3] at h
      refine px_D_st 2 (ip1 := 22) (ls1 := [(0, .inr (.inr 150)), (1, .inl (x1))]) (st1 := [.inl (12), .inl (x1)]) (h1 := (px_G1, s)) rfl ?_
      refine px_D_icmp rfl (fun hc => ?_) (fun hc => ?_)
      · have hc4 : ¬ ((x1) = (12)) := of_decide_eq_true hc
        rw [if_neg hc4] at h
        refine px_D_st 1 (ip1 := 35) (ls1 := [(0, .inr (.inr 150)), (1, .inl (x1))]) (st1 := [.inr (.inr 150)]) (h1 := (px_G1, s)) rfl ?_
        refine px_D_call (as := [.inr (.inr 150)]) (rest := []) rfl rfl rfl rfl ?_
        obtain ⟨q5, hq5, h⟩ := Option.bind_eq_some_iff.mp h
        refine px_D_mono (c_M_readAfterLine (d := d + 0) hq5) ?_
        rintro _ _ ⟨rfl, rfl⟩
        show px_D sc (d + 5) 199 36 [(0, .inr (.inr 150)), (1, .inl (x1))] [.inl (q5.1)] (px_G1, q5.2) _
        refine px_D_st 1 (ip1 := 37) (ls1 := [(0, .inr (.inr 150)), (1, .inl (x1))]) (st1 := [.inl ((-1)), .inl (q5.1)]) (h1 := (px_G1, q5.2)) rfl ?_
        refine px_D_icmp rfl (fun hc => ?_) (fun hc => ?_)
        · have hc6 : ¬ ((q5.1) = ((-1))) := of_decide_eq_true hc
          rw [if_neg hc6] at h
          refine px_D_st 5 (ip1 := 16) (ls1 := [(1, .inl (px_wr (x1 + 1))), (0, .inr (.inr 150))]) (st1 := []) (h1 := (px_G1, q5.2)) rfl ?_
          refine px_D_ls [(0, .inr (.inr 150)), (1, .inl (px_wr (x1 + 1)))] rfl rfl (List.forall_mem_cons.mpr ⟨rfl, List.forall_mem_cons.mpr ⟨rfl, fun _ h => absurd h List.not_mem_nil⟩⟩) ?_
          exact ih _ _ _ h
        · have hc6 : (q5.1) = ((-1)) := Decidable.of_not_not (of_decide_eq_false hc)
          rw [if_pos hc6] at h
          refine px_D_st 1 (ip1 := 39) (ls1 := [(0, .inr (.inr 150)), (1, .inl (x1))]) (st1 := [.inl ((-1))]) (h1 := (px_G1, q5.2)) rfl ?_
          cases h
          exact px_D_iret rfl rfl ⟨rfl, rfl⟩
      · have hc4 : (x1) = (12) := Decidable.of_not_not (of_decide_eq_false hc)
        rw [if_pos hc4] at h
        refine px_D_ls [(0, .inr (.inr 150))] rfl rfl (List.forall_mem_cons.mpr ⟨rfl, fun _ h => absurd h List.not_mem_nil⟩) ?_
        exact hk23 _ _ h
def f_M_readAfter (s : px_Z) : Option (Int × px_Z) := l_M_readAfter_2 (fun s => l_M_readAfter_16 (fun s => if (s 150 17) < (s 150 6) then (f_M_errs s 3).bind (fun q8 => some (q8.1, q8.2)) else (f_M_errs s 2).bind (fun q9 => some (q9.1, q9.2))) (fun s x1 => if (s 150 16) = (0) then some (x1, s) else (f_M_errs s 1).bind (fun q11 => some (q11.1, q11.2))) px_big s 0) px_big s 0
set_option maxHeartbeats 4000000 in
set_option maxRecDepth 100000 in
theorem c_M_readAfter {sc : List Int} {d : Nat} {s : px_Z} {out : Int × px_Z} (h : f_M_readAfter s  = some out) : px_D sc (d + 5) 199 0 [(0, .inr (.inr 150))] [] (px_G1, s) (px_Qi out) := by
  unfold f_M_readAfter at h
  refine px_D_st 2 (ip1 := 2) (ls1 := [(1, .inl (0)), (0, .inr (.inr 150))]) (st1 := []) (h1 := (px_G1, s)) rfl ?_
  refine px_D_ls [(0, .inr (.inr 150)), (1, .inl (0))] rfl rfl (List.forall_mem_cons.mpr ⟨rfl, List.forall_mem_cons.mpr ⟨rfl, fun _ h => absurd h List.not_mem_nil⟩⟩) ?_
  refine cl_M_readAfter_2 ?_ px_big _ _ _ h
  · intro s out h
    refine px_D_st 2 (ip1 := 16) (ls1 := [(1, .inl (0)), (0, .inr (.inr 150))]) (st1 := []) (h1 := (px_G1, s)) rfl ?_
    refine px_D_ls [(0, .inr (.inr 150)), (1, .inl (0))] rfl rfl (List.forall_mem_cons.mpr ⟨rfl, List.forall_mem_cons.mpr ⟨rfl, fun _ h => absurd h List.not_mem_nil⟩⟩) ?_
    refine cl_M_readAfter_16 ?_ ?_ px_big _ _ _ h
    · intro s out h
      refine px_D_st 5 (ip1 := 28) (ls1 := [(0, .inr (.inr 150))]) (st1 := [.inl (s 150 6), .inl (s 150 17), .inr (.inr 150)]) (h1 := (px_G1, s)) rfl ?_
      refine px_D_icmp rfl (fun hc => ?_) (fun hc => ?_)
      · have hc7 : (s 150 17) < (s 150 6) := of_decide_eq_true hc
        rw [if_pos hc7] at h
        refine px_D_st 1 (ip1 := 32) (ls1 := [(0, .inr (.inr 150))]) (st1 := [.inl (3), .inr (.inr 150)]) (h1 := (px_G1, s)) rfl ?_
        refine px_D_call (as := [.inr (.inr 150), .inl (3)]) (rest := []) rfl rfl rfl rfl ?_
        obtain ⟨q8, hq8, h⟩ := Option.bind_eq_some_iff.mp h
        refine px_D_mono (c_M_errs (d := d + 4) hq8) ?_
        rintro _ _ ⟨rfl, rfl⟩
        show px_D sc (d + 5) 199 33 [(0, .inr (.inr 150))] [.inl (q8.1)] (px_G1, q8.2) _
        cases h
        exact px_D_iret rfl rfl ⟨rfl, rfl⟩
      · have hc7 : ¬ ((s 150 17) < (s 150 6)) := of_decide_eq_false hc
        rw [if_neg hc7] at h
        refine px_D_st 2 (ip1 := 32) (ls1 := [(0, .inr (.inr 150))]) (st1 := [.inl (2), .inr (.inr 150)]) (h1 := (px_G1, s)) rfl ?_
        refine px_D_call (as := [.inr (.inr 150), .inl (2)]) (rest := []) rfl rfl rfl rfl ?_
        obtain ⟨q9, hq9, h⟩ := Option.bind_eq_some_iff.mp h
        refine px_D_mono (c_M_errs (d := d + 4) hq9) ?_
        rintro _ _ ⟨rfl, rfl⟩
        show px_D sc (d + 5) 199 33 [(0, .inr (.inr 150))] [.inl (q9.1)] (px_G1, q9.2) _
        cases h
        exact px_D_iret rfl rfl ⟨rfl, rfl⟩
    · intro s x1 out h
      refine px_D_st 2 (ip1 := 47) (ls1 := [(0, .inr (.inr 150)), (1, .inl (x1))]) (st1 := [.inl (s 150 16)]) (h1 := (px_G1, s)) rfl ?_
      refine px_D_ifc rfl (fun hc => ?_) (fun hc => ?_)
      · have hc10 : ¬ ((s 150 16) = (0)) := of_decide_eq_true hc
        rw [if_neg hc10] at h
        refine px_D_st 2 (ip1 := 52) (ls1 := [(0, .inr (.inr 150)), (1, .inl (x1))]) (st1 := [.inl (1), .inr (.inr 150)]) (h1 := (px_G1, s)) rfl ?_
        refine px_D_call (as := [.inr (.inr 150), .inl (1)]) (rest := []) rfl rfl rfl rfl ?_
        obtain ⟨q11, hq11, h⟩ := Option.bind_eq_some_iff.mp h
        refine px_D_mono (c_M_errs (d := d + 4) hq11) ?_
        rintro _ _ ⟨rfl, rfl⟩
        show px_D sc (d + 5) 199 53 [(0, .inr (.inr 150)), (1, .inl (x1))] [.inl (q11.1)] (px_G1, q11.2) _
        cases h
        exact px_D_iret rfl rfl ⟨rfl, rfl⟩
      · have hc10 : (s 150 16) = (0) := Decidable.of_not_not (of_decide_eq_false hc)
        rw [if_pos hc10] at h
        refine px_D_st 2 (ip1 := 53) (ls1 := [(0, .inr (.inr 150)), (1, .inl (x1))]) (st1 := [.inl (x1)]) (h1 := (px_G1, s)) rfl ?_
        cases h
        exact px_D_iret rfl rfl ⟨rfl, rfl⟩

def f_M_emitsStep (s : px_Z) (x1 : Int) (x2 : Int) (x3 : Int) : Option (px_Z) := if 0 ≤ (s 150 42) ∧ (s 150 42) < 140 then if 0 ≤ ((px_up s 168 (s 150 42).toNat x1) 150 42) ∧ ((px_up s 168 (s 150 42).toNat x1) 150 42) < 140 then if 0 ≤ ((px_up (px_up s 168 (s 150 42).toNat x1) 169 ((px_up s 168 (s 150 42).toNat x1) 150 42).toNat x2) 150 42) ∧ ((px_up (px_up s 168 (s 150 42).toNat x1) 169 ((px_up s 168 (s 150 42).toNat x1) 150 42).toNat x2) 150 42) < 140 then some (px_up (px_up (px_up (px_up s 168 (s 150 42).toNat x1) 169 ((px_up s 168 (s 150 42).toNat x1) 150 42).toNat x2) 170 ((px_up (px_up s 168 (s 150 42).toNat x1) 169 ((px_up s 168 (s 150 42).toNat x1) 150 42).toNat x2) 150 42).toNat x3) 150 42 (px_wr (((px_up (px_up (px_up s 168 (s 150 42).toNat x1) 169 ((px_up s 168 (s 150 42).toNat x1) 150 42).toNat x2) 170 ((px_up (px_up s 168 (s 150 42).toNat x1) 169 ((px_up s 168 (s 150 42).toNat x1) 150 42).toNat x2) 150 42).toNat x3) 150 42) + 1))) else none else none else none
set_option maxHeartbeats 4000000 in
set_option maxRecDepth 100000 in
theorem c_M_emitsStep {sc : List Int} {d : Nat} {s : px_Z} {x1 : Int} {x2 : Int} {x3 : Int} {out : px_Z} (h : f_M_emitsStep s x1 x2 x3 = some out) : px_D sc (d + 0) 200 0 [(0, .inr (.inr 150)), (1, .inl (x1)), (2, .inl (x2)), (3, .inl (x3))] [] (px_G1, s) (px_Qv out) := by
  unfold f_M_emitsStep at h
  refine px_D_st 5 (ip1 := 5) (ls1 := [(0, .inr (.inr 150)), (1, .inl (x1)), (2, .inl (x2)), (3, .inl (x3))]) (st1 := [.inl (x1), .inl (s 150 42), .inr (.inr 168)]) (h1 := (px_G1, s)) rfl ?_
  by_cases hc1 : 0 ≤ (s 150 42) ∧ (s 150 42) < 140
  case neg => rw [if_neg hc1] at h; cases h
  rw [if_pos hc1] at h
  refine px_D_iast (k := 163) (n := 140) rfl rfl hc1 ?_
  refine px_D_st 5 (ip1 := 11) (ls1 := [(0, .inr (.inr 150)), (1, .inl (x1)), (2, .inl (x2)), (3, .inl (x3))]) (st1 := [.inl (x2), .inl ((px_up s 168 (s 150 42).toNat x1) 150 42), .inr (.inr 169)]) (h1 := (px_G1, px_up s 168 (s 150 42).toNat x1)) rfl ?_
  by_cases hc2 : 0 ≤ ((px_up s 168 (s 150 42).toNat x1) 150 42) ∧ ((px_up s 168 (s 150 42).toNat x1) 150 42) < 140
  case neg => rw [if_neg hc2] at h; cases h
  rw [if_pos hc2] at h
  refine px_D_iast (k := 164) (n := 140) rfl rfl hc2 ?_
  refine px_D_st 5 (ip1 := 17) (ls1 := [(0, .inr (.inr 150)), (1, .inl (x1)), (2, .inl (x2)), (3, .inl (x3))]) (st1 := [.inl (x3), .inl ((px_up (px_up s 168 (s 150 42).toNat x1) 169 ((px_up s 168 (s 150 42).toNat x1) 150 42).toNat x2) 150 42), .inr (.inr 170)]) (h1 := (px_G1, px_up (px_up s 168 (s 150 42).toNat x1) 169 ((px_up s 168 (s 150 42).toNat x1) 150 42).toNat x2)) rfl ?_
  by_cases hc3 : 0 ≤ ((px_up (px_up s 168 (s 150 42).toNat x1) 169 ((px_up s 168 (s 150 42).toNat x1) 150 42).toNat x2) 150 42) ∧ ((px_up (px_up s 168 (s 150 42).toNat x1) 169 ((px_up s 168 (s 150 42).toNat x1) 150 42).toNat x2) 150 42) < 140
  case neg => rw [if_neg hc3] at h; cases h
  rw [if_pos hc3] at h
  refine px_D_iast (k := 165) (n := 140) rfl rfl hc3 ?_
  refine px_D_st 6 (ip1 := 24) (ls1 := [(0, .inr (.inr 150)), (1, .inl (x1)), (2, .inl (x2)), (3, .inl (x3))]) (st1 := []) (h1 := (px_G1, px_up (px_up (px_up (px_up s 168 (s 150 42).toNat x1) 169 ((px_up s 168 (s 150 42).toNat x1) 150 42).toNat x2) 170 ((px_up (px_up s 168 (s 150 42).toNat x1) 169 ((px_up s 168 (s 150 42).toNat x1) 150 42).toNat x2) 150 42).toNat x3) 150 42 (px_wr (((px_up (px_up (px_up s 168 (s 150 42).toNat x1) 169 ((px_up s 168 (s 150 42).toNat x1) 150 42).toNat x2) 170 ((px_up (px_up s 168 (s 150 42).toNat x1) 169 ((px_up s 168 (s 150 42).toNat x1) 150 42).toNat x2) 150 42).toNat x3) 150 42) + 1)))) rfl ?_
  cases h
  exact px_D_vret rfl ⟨rfl, rfl⟩

def f_M_isDeed (s : px_Z) : Int := if (f_M_isWord s 24) = (0) then (if (f_M_isWord s 25) = (0) then (if (f_M_isWord s 26) = (0) then 0 else 1) else 1) else 1
set_option maxHeartbeats 4000000 in
set_option maxRecDepth 100000 in
theorem c_M_isDeed {sc : List Int} {d : Nat} {s : px_Z} {out : Int} (h : f_M_isDeed s  = out) : px_D sc (d + 1) 201 0 [(0, .inr (.inr 150))] [] (px_G1, s) (px_Qp s out) := by
  unfold f_M_isDeed at h
  refine px_D_st 2 (ip1 := 2) (ls1 := [(0, .inr (.inr 150))]) (st1 := [.inl (24), .inr (.inr 150)]) (h1 := (px_G1, s)) rfl ?_
  refine px_D_call (as := [.inr (.inr 150), .inl (24)]) (rest := []) rfl rfl rfl rfl ?_
  refine px_D_mono (c_M_isWord (d := d + 0) rfl) ?_
  rintro _ _ ⟨rfl, rfl⟩
  show px_D sc (d + 1) 201 3 [(0, .inr (.inr 150))] [.inl (f_M_isWord s 24)] (px_G1, s) _
  refine px_D_ifc rfl (fun hc => ?_) (fun hc => ?_)
  · have hc1 : ¬ ((f_M_isWord s 24) = (0)) := of_decide_eq_true hc
    rw [if_neg hc1] at h
    refine px_D_st 2 (ip1 := 15) (ls1 := [(0, .inr (.inr 150))]) (st1 := [.inl (1)]) (h1 := (px_G1, s)) rfl ?_
    subst h
    exact px_D_iret rfl rfl ⟨rfl, rfl⟩
  · have hc1 : (f_M_isWord s 24) = (0) := Decidable.of_not_not (of_decide_eq_false hc)
    rw [if_pos hc1] at h
    refine px_D_st 2 (ip1 := 6) (ls1 := [(0, .inr (.inr 150))]) (st1 := [.inl (25), .inr (.inr 150)]) (h1 := (px_G1, s)) rfl ?_
    refine px_D_call (as := [.inr (.inr 150), .inl (25)]) (rest := []) rfl rfl rfl rfl ?_
    refine px_D_mono (c_M_isWord (d := d + 0) rfl) ?_
    rintro _ _ ⟨rfl, rfl⟩
    show px_D sc (d + 1) 201 7 [(0, .inr (.inr 150))] [.inl (f_M_isWord s 25)] (px_G1, s) _
    refine px_D_ifc rfl (fun hc => ?_) (fun hc => ?_)
    · have hc2 : ¬ ((f_M_isWord s 25) = (0)) := of_decide_eq_true hc
      rw [if_neg hc2] at h
      refine px_D_st 2 (ip1 := 15) (ls1 := [(0, .inr (.inr 150))]) (st1 := [.inl (1)]) (h1 := (px_G1, s)) rfl ?_
      subst h
      exact px_D_iret rfl rfl ⟨rfl, rfl⟩
    · have hc2 : (f_M_isWord s 25) = (0) := Decidable.of_not_not (of_decide_eq_false hc)
      rw [if_pos hc2] at h
      refine px_D_st 2 (ip1 := 10) (ls1 := [(0, .inr (.inr 150))]) (st1 := [.inl (26), .inr (.inr 150)]) (h1 := (px_G1, s)) rfl ?_
      refine px_D_call (as := [.inr (.inr 150), .inl (26)]) (rest := []) rfl rfl rfl rfl ?_
      refine px_D_mono (c_M_isWord (d := d + 0) rfl) ?_
      rintro _ _ ⟨rfl, rfl⟩
      show px_D sc (d + 1) 201 11 [(0, .inr (.inr 150))] [.inl (f_M_isWord s 26)] (px_G1, s) _
      refine px_D_ifc rfl (fun hc => ?_) (fun hc => ?_)
      · have hc3 : (f_M_isWord s 26) = (0) := of_decide_eq_true hc
        rw [if_pos hc3] at h
        refine px_D_st 1 (ip1 := 15) (ls1 := [(0, .inr (.inr 150))]) (st1 := [.inl (0)]) (h1 := (px_G1, s)) rfl ?_
        subst h
        exact px_D_iret rfl rfl ⟨rfl, rfl⟩
      · have hc3 : ¬ ((f_M_isWord s 26) = (0)) := of_decide_eq_false hc
        rw [if_neg hc3] at h
        refine px_D_st 2 (ip1 := 15) (ls1 := [(0, .inr (.inr 150))]) (st1 := [.inl (1)]) (h1 := (px_G1, s)) rfl ?_
        subst h
        exact px_D_iret rfl rfl ⟨rfl, rfl⟩
set_option maxHeartbeats 4000000 in
set_option maxRecDepth 100000 in
theorem bz_M_isDeed {s : px_Z} : f_M_isDeed s  = 0 ∨ f_M_isDeed s  = 1 := by
  unfold f_M_isDeed
  repeat' split
  all_goals first | exact Or.inl rfl | exact Or.inr rfl | exact Or.inl rfl | exact bz_M_isWord

def j_M_readDeed_j37 (s : px_Z) (x1 : Int) (x2 : Int) (t0 : Int) : Option (Int × px_Z) := if (t0) = ((-1)) then some (((-1), s)) else (f_M_readMark s 59).bind (fun q8 => if (q8.1) = ((-1)) then some (((-1), q8.2)) else (f_M_emitsStep q8.2 x1 x2 t0).bind (fun q10 => some (0, q10)))
set_option maxHeartbeats 4000000 in
set_option maxRecDepth 100000 in
theorem cj_M_readDeed_j37 {sc : List Int} {d : Nat} {s : px_Z} {x1 : Int} {x2 : Int} {t0 : Int} {out : Int × px_Z} (h : j_M_readDeed_j37 s x1 x2 t0 = some out) : px_D sc (d + 5) 202 37 [(0, .inr (.inr 150)), (1, .inl (x1)), (2, .inl (x2))] [.inl (t0)] (px_G1, s) (px_Qi out) := by
  unfold j_M_readDeed_j37 at h
  refine px_D_st 3 (ip1 := 40) (ls1 := [(3, .inl (t0)), (0, .inr (.inr 150)), (1, .inl (x1)), (2, .inl (x2))]) (st1 := [.inl ((-1)), .inl (t0)]) (h1 := (px_G1, s)) rfl ?_
  refine px_D_icmp rfl (fun hc => ?_) (fun hc => ?_)
  · have hc7 : (t0) = ((-1)) := of_decide_eq_true hc
    rw [if_pos hc7] at h
    refine px_D_st 1 (ip1 := 47) (ls1 := [(3, .inl (t0)), (0, .inr (.inr 150)), (1, .inl (x1)), (2, .inl (x2))]) (st1 := [.inl ((-1))]) (h1 := (px_G1, s)) rfl ?_
    cases h
    exact px_D_iret rfl rfl ⟨rfl, rfl⟩
  · have hc7 : ¬ ((t0) = ((-1))) := of_decide_eq_false hc
    rw [if_neg hc7] at h
    refine px_D_st 2 (ip1 := 43) (ls1 := [(3, .inl (t0)), (0, .inr (.inr 150)), (1, .inl (x1)), (2, .inl (x2))]) (st1 := [.inl (59), .inr (.inr 150)]) (h1 := (px_G1, s)) rfl ?_
    refine px_D_call (as := [.inr (.inr 150), .inl (59)]) (rest := []) rfl rfl rfl rfl ?_
    obtain ⟨q8, hq8, h⟩ := Option.bind_eq_some_iff.mp h
    refine px_D_mono (c_M_readMark (d := d + 1) hq8) ?_
    rintro _ _ ⟨rfl, rfl⟩
    show px_D sc (d + 5) 202 44 [(3, .inl (t0)), (0, .inr (.inr 150)), (1, .inl (x1)), (2, .inl (x2))] [.inl (q8.1)] (px_G1, q8.2) _
    refine px_D_st 1 (ip1 := 45) (ls1 := [(3, .inl (t0)), (0, .inr (.inr 150)), (1, .inl (x1)), (2, .inl (x2))]) (st1 := [.inl ((-1)), .inl (q8.1)]) (h1 := (px_G1, q8.2)) rfl ?_
    refine px_D_icmp rfl (fun hc => ?_) (fun hc => ?_)
    · have hc9 : ¬ ((q8.1) = ((-1))) := of_decide_eq_true hc
      rw [if_neg hc9] at h
      refine px_D_st 4 (ip1 := 52) (ls1 := [(3, .inl (t0)), (0, .inr (.inr 150)), (1, .inl (x1)), (2, .inl (x2))]) (st1 := [.inl (t0), .inl (x2), .inl (x1), .inr (.inr 150)]) (h1 := (px_G1, q8.2)) rfl ?_
      refine px_D_call (as := [.inr (.inr 150), .inl (x1), .inl (x2), .inl (t0)]) (rest := []) rfl rfl rfl rfl ?_
      obtain ⟨q10, hq10, h⟩ := Option.bind_eq_some_iff.mp h
      refine px_D_mono (c_M_emitsStep (d := d + 4) hq10) ?_
      rintro _ _ ⟨rfl, rfl⟩
      show px_D sc (d + 5) 202 53 [(3, .inl (t0)), (0, .inr (.inr 150)), (1, .inl (x1)), (2, .inl (x2))] [] (px_G1, q10) _
      refine px_D_st 1 (ip1 := 54) (ls1 := [(3, .inl (t0)), (0, .inr (.inr 150)), (1, .inl (x1)), (2, .inl (x2))]) (st1 := [.inl (0)]) (h1 := (px_G1, q10)) rfl ?_
      cases h
      exact px_D_iret rfl rfl ⟨rfl, rfl⟩
    · have hc9 : (q8.1) = ((-1)) := Decidable.of_not_not (of_decide_eq_false hc)
      rw [if_pos hc9] at h
      refine px_D_st 1 (ip1 := 47) (ls1 := [(3, .inl (t0)), (0, .inr (.inr 150)), (1, .inl (x1)), (2, .inl (x2))]) (st1 := [.inl ((-1))]) (h1 := (px_G1, q8.2)) rfl ?_
      cases h
      exact px_D_iret rfl rfl ⟨rfl, rfl⟩
def j_M_readDeed_j21 (s : px_Z) (x1 : Int) (t0 : Int) (t1 : Int) : Option (Int × px_Z) := (f_M_readNumber s t1 t0).bind (fun q4 => if (q4.1) = ((-1)) then some (((-1), q4.2)) else (if (x1) = (0) then (f_M_readTold q4.2 22 0 5).bind (fun q11 => j_M_readDeed_j37 q11.2 x1 q4.1 q11.1) else j_M_readDeed_j37 q4.2 x1 q4.1 0))
set_option maxHeartbeats 4000000 in
set_option maxRecDepth 100000 in
theorem cj_M_readDeed_j21 {sc : List Int} {d : Nat} {s : px_Z} {x1 : Int} {t0 : Int} {t1 : Int} {out : Int × px_Z} (h : j_M_readDeed_j21 s x1 t0 t1 = some out) : px_D sc (d + 5) 202 21 [(0, .inr (.inr 150)), (1, .inl (x1))] [.inl (t0), .inl (t1), .inr (.inr 150)] (px_G1, s) (px_Qi out) := by
  unfold j_M_readDeed_j21 at h
  refine px_D_call (as := [.inr (.inr 150), .inl (t1), .inl (t0)]) (rest := []) rfl rfl rfl rfl ?_
  obtain ⟨q4, hq4, h⟩ := Option.bind_eq_some_iff.mp h
  refine px_D_mono (c_M_readNumber (d := d + 1) hq4) ?_
  rintro _ _ ⟨rfl, rfl⟩
  show px_D sc (d + 5) 202 22 [(0, .inr (.inr 150)), (1, .inl (x1))] [.inl (q4.1)] (px_G1, q4.2) _
  refine px_D_st 3 (ip1 := 25) (ls1 := [(2, .inl (q4.1)), (0, .inr (.inr 150)), (1, .inl (x1))]) (st1 := [.inl ((-1)), .inl (q4.1)]) (h1 := (px_G1, q4.2)) rfl ?_
  refine px_D_icmp rfl (fun hc => ?_) (fun hc => ?_)
  · have hc5 : ¬ ((q4.1) = ((-1))) := of_decide_eq_true hc
    rw [if_neg hc5] at h
    refine px_D_st 1 (ip1 := 29) (ls1 := [(2, .inl (q4.1)), (0, .inr (.inr 150)), (1, .inl (x1))]) (st1 := [.inl (x1)]) (h1 := (px_G1, q4.2)) rfl ?_
    refine px_D_ifc rfl (fun hc => ?_) (fun hc => ?_)
    · have hc6 : ¬ ((x1) = (0)) := of_decide_eq_true hc
      rw [if_neg hc6] at h
      refine px_D_st 1 (ip1 := 37) (ls1 := [(2, .inl (q4.1)), (0, .inr (.inr 150)), (1, .inl (x1))]) (st1 := [.inl (0)]) (h1 := (px_G1, q4.2)) rfl ?_
      refine px_D_ls [(0, .inr (.inr 150)), (1, .inl (x1)), (2, .inl (q4.1))] rfl rfl (List.forall_mem_cons.mpr ⟨rfl, List.forall_mem_cons.mpr ⟨rfl, List.forall_mem_cons.mpr ⟨rfl, fun _ h => absurd h List.not_mem_nil⟩⟩⟩) ?_
      exact cj_M_readDeed_j37 h
    · have hc6 : (x1) = (0) := Decidable.of_not_not (of_decide_eq_false hc)
      rw [if_pos hc6] at h
      refine px_D_st 4 (ip1 := 34) (ls1 := [(2, .inl (q4.1)), (0, .inr (.inr 150)), (1, .inl (x1))]) (st1 := [.inl (5), .inl (0), .inl (22), .inr (.inr 150)]) (h1 := (px_G1, q4.2)) rfl ?_
      refine px_D_call (as := [.inr (.inr 150), .inl (22), .inl (0), .inl (5)]) (rest := []) rfl rfl rfl rfl ?_
      obtain ⟨q11, hq11, h⟩ := Option.bind_eq_some_iff.mp h
      refine px_D_mono (c_M_readTold (d := d + 0) hq11) ?_
      rintro _ _ ⟨rfl, rfl⟩
      show px_D sc (d + 5) 202 35 [(2, .inl (q4.1)), (0, .inr (.inr 150)), (1, .inl (x1))] [.inl (q11.1)] (px_G1, q11.2) _
      refine px_D_st 1 (ip1 := 37) (ls1 := [(2, .inl (q4.1)), (0, .inr (.inr 150)), (1, .inl (x1))]) (st1 := [.inl (q11.1)]) (h1 := (px_G1, q11.2)) rfl ?_
      refine px_D_ls [(0, .inr (.inr 150)), (1, .inl (x1)), (2, .inl (q4.1))] rfl rfl (List.forall_mem_cons.mpr ⟨rfl, List.forall_mem_cons.mpr ⟨rfl, List.forall_mem_cons.mpr ⟨rfl, fun _ h => absurd h List.not_mem_nil⟩⟩⟩) ?_
      exact cj_M_readDeed_j37 h
  · have hc5 : (q4.1) = ((-1)) := Decidable.of_not_not (of_decide_eq_false hc)
    rw [if_pos hc5] at h
    refine px_D_st 1 (ip1 := 27) (ls1 := [(2, .inl (q4.1)), (0, .inr (.inr 150)), (1, .inl (x1))]) (st1 := [.inl ((-1))]) (h1 := (px_G1, q4.2)) rfl ?_
    cases h
    exact px_D_iret rfl rfl ⟨rfl, rfl⟩
def j_M_readDeed_j13 (s : px_Z) (x1 : Int) (t0 : Int) : Option (Int × px_Z) := if (x1) = (0) then j_M_readDeed_j21 s x1 (px_wr ((s 150 6) - 1)) t0 else j_M_readDeed_j21 s x1 20 t0
set_option maxHeartbeats 4000000 in
set_option maxRecDepth 100000 in
theorem cj_M_readDeed_j13 {sc : List Int} {d : Nat} {s : px_Z} {x1 : Int} {t0 : Int} {out : Int × px_Z} (h : j_M_readDeed_j13 s x1 t0 = some out) : px_D sc (d + 5) 202 13 [(0, .inr (.inr 150)), (1, .inl (x1))] [.inl (t0), .inr (.inr 150)] (px_G1, s) (px_Qi out) := by
  unfold j_M_readDeed_j13 at h
  refine px_D_st 1 (ip1 := 14) (ls1 := [(0, .inr (.inr 150)), (1, .inl (x1))]) (st1 := [.inl (x1), .inl (t0), .inr (.inr 150)]) (h1 := (px_G1, s)) rfl ?_
  refine px_D_ifc rfl (fun hc => ?_) (fun hc => ?_)
  · have hc3 : ¬ ((x1) = (0)) := of_decide_eq_true hc
    rw [if_neg hc3] at h
    refine px_D_st 1 (ip1 := 21) (ls1 := [(0, .inr (.inr 150)), (1, .inl (x1))]) (st1 := [.inl (20), .inl (t0), .inr (.inr 150)]) (h1 := (px_G1, s)) rfl ?_
    refine px_D_ls [(0, .inr (.inr 150)), (1, .inl (x1))] rfl rfl (List.forall_mem_cons.mpr ⟨rfl, List.forall_mem_cons.mpr ⟨rfl, fun _ h => absurd h List.not_mem_nil⟩⟩) ?_
    exact cj_M_readDeed_j21 h
  · have hc3 : (x1) = (0) := Decidable.of_not_not (of_decide_eq_false hc)
    rw [if_pos hc3] at h
    refine px_D_st 5 (ip1 := 21) (ls1 := [(0, .inr (.inr 150)), (1, .inl (x1))]) (st1 := [.inl (px_wr ((s 150 6) - 1)), .inl (t0), .inr (.inr 150)]) (h1 := (px_G1, s)) rfl ?_
    refine px_D_ls [(0, .inr (.inr 150)), (1, .inl (x1))] rfl rfl (List.forall_mem_cons.mpr ⟨rfl, List.forall_mem_cons.mpr ⟨rfl, fun _ h => absurd h List.not_mem_nil⟩⟩) ?_
    exact cj_M_readDeed_j21 h
def f_M_readDeed (s : px_Z) : Option (Int × px_Z) := (f_M_reads s ).bind (fun q1 => if (px_wr ((s 150 17) - 24)) = (0) then j_M_readDeed_j13 q1 (px_wr ((s 150 17) - 24)) 0 else j_M_readDeed_j13 q1 (px_wr ((s 150 17) - 24)) 1)
set_option maxHeartbeats 4000000 in
set_option maxRecDepth 100000 in
theorem c_M_readDeed {sc : List Int} {d : Nat} {s : px_Z} {out : Int × px_Z} (h : f_M_readDeed s  = some out) : px_D sc (d + 5) 202 0 [(0, .inr (.inr 150))] [] (px_G1, s) (px_Qi out) := by
  unfold f_M_readDeed at h
  refine px_D_st 6 (ip1 := 6) (ls1 := [(1, .inl (px_wr ((s 150 17) - 24))), (0, .inr (.inr 150))]) (st1 := [.inr (.inr 150)]) (h1 := (px_G1, s)) rfl ?_
  refine px_D_call (as := [.inr (.inr 150)]) (rest := []) rfl rfl rfl rfl ?_
  obtain ⟨q1, hq1, h⟩ := Option.bind_eq_some_iff.mp h
  refine px_D_mono (c_M_reads (d := d + 2) hq1) ?_
  rintro _ _ ⟨rfl, rfl⟩
  show px_D sc (d + 5) 202 7 [(1, .inl (px_wr ((s 150 17) - 24))), (0, .inr (.inr 150))] [] (px_G1, q1) _
  refine px_D_st 2 (ip1 := 9) (ls1 := [(1, .inl (px_wr ((s 150 17) - 24))), (0, .inr (.inr 150))]) (st1 := [.inl (px_wr ((s 150 17) - 24)), .inr (.inr 150)]) (h1 := (px_G1, q1)) rfl ?_
  refine px_D_ifc rfl (fun hc => ?_) (fun hc => ?_)
  · have hc2 : ¬ ((px_wr ((s 150 17) - 24)) = (0)) := of_decide_eq_true hc
    rw [if_neg hc2] at h
    refine px_D_st 1 (ip1 := 13) (ls1 := [(1, .inl (px_wr ((s 150 17) - 24))), (0, .inr (.inr 150))]) (st1 := [.inl (1), .inr (.inr 150)]) (h1 := (px_G1, q1)) rfl ?_
    refine px_D_ls [(0, .inr (.inr 150)), (1, .inl (px_wr ((s 150 17) - 24)))] rfl rfl (List.forall_mem_cons.mpr ⟨rfl, List.forall_mem_cons.mpr ⟨rfl, fun _ h => absurd h List.not_mem_nil⟩⟩) ?_
    exact cj_M_readDeed_j13 h
  · have hc2 : (px_wr ((s 150 17) - 24)) = (0) := Decidable.of_not_not (of_decide_eq_false hc)
    rw [if_pos hc2] at h
    refine px_D_st 2 (ip1 := 13) (ls1 := [(1, .inl (px_wr ((s 150 17) - 24))), (0, .inr (.inr 150))]) (st1 := [.inl (0), .inr (.inr 150)]) (h1 := (px_G1, q1)) rfl ?_
    refine px_D_ls [(0, .inr (.inr 150)), (1, .inl (px_wr ((s 150 17) - 24)))] rfl rfl (List.forall_mem_cons.mpr ⟨rfl, List.forall_mem_cons.mpr ⟨rfl, fun _ h => absurd h List.not_mem_nil⟩⟩) ?_
    exact cj_M_readDeed_j13 h

def f_M_readAgain (s : px_Z) : Option (Int × px_Z) := if (s 150 28) = (4) then (f_M_errs s 3).bind (fun q8 => some (q8.1, q8.2)) else (f_M_reads (px_up s 150 28 (px_wr ((s 150 28) + 1))) ).bind (fun q2 => (f_M_readNumber q2 1 9).bind (fun q3 => if (q3.1) = ((-1)) then some (((-1), q3.2)) else (f_M_readMark q3.2 40).bind (fun q5 => if (q5.1) = ((-1)) then some (((-1), q5.2)) else (f_M_emitsStep q5.2 3 q3.1 0).bind (fun q7 => some (0, q7)))))
set_option maxHeartbeats 4000000 in
set_option maxRecDepth 100000 in
theorem c_M_readAgain {sc : List Int} {d : Nat} {s : px_Z} {out : Int × px_Z} (h : f_M_readAgain s  = some out) : px_D sc (d + 4) 203 0 [(0, .inr (.inr 150))] [] (px_G1, s) (px_Qi out) := by
  unfold f_M_readAgain at h
  refine px_D_st 3 (ip1 := 3) (ls1 := [(0, .inr (.inr 150))]) (st1 := [.inl (4), .inl (s 150 28)]) (h1 := (px_G1, s)) rfl ?_
  refine px_D_icmp rfl (fun hc => ?_) (fun hc => ?_)
  · have hc1 : ¬ ((s 150 28) = (4)) := of_decide_eq_true hc
    rw [if_neg hc1] at h
    refine px_D_st 7 (ip1 := 15) (ls1 := [(0, .inr (.inr 150))]) (st1 := [.inr (.inr 150)]) (h1 := (px_G1, px_up s 150 28 (px_wr ((s 150 28) + 1)))) rfl ?_
    refine px_D_call (as := [.inr (.inr 150)]) (rest := []) rfl rfl rfl rfl ?_
    obtain ⟨q2, hq2, h⟩ := Option.bind_eq_some_iff.mp h
    refine px_D_mono (c_M_reads (d := d + 1) hq2) ?_
    rintro _ _ ⟨rfl, rfl⟩
    show px_D sc (d + 4) 203 16 [(0, .inr (.inr 150))] [] (px_G1, q2) _
    refine px_D_st 3 (ip1 := 19) (ls1 := [(0, .inr (.inr 150))]) (st1 := [.inl (9), .inl (1), .inr (.inr 150)]) (h1 := (px_G1, q2)) rfl ?_
    refine px_D_call (as := [.inr (.inr 150), .inl (1), .inl (9)]) (rest := []) rfl rfl rfl rfl ?_
    obtain ⟨q3, hq3, h⟩ := Option.bind_eq_some_iff.mp h
    refine px_D_mono (c_M_readNumber (d := d + 0) hq3) ?_
    rintro _ _ ⟨rfl, rfl⟩
    show px_D sc (d + 4) 203 20 [(0, .inr (.inr 150))] [.inl (q3.1)] (px_G1, q3.2) _
    refine px_D_st 3 (ip1 := 23) (ls1 := [(1, .inl (q3.1)), (0, .inr (.inr 150))]) (st1 := [.inl ((-1)), .inl (q3.1)]) (h1 := (px_G1, q3.2)) rfl ?_
    refine px_D_icmp rfl (fun hc => ?_) (fun hc => ?_)
    · have hc4 : (q3.1) = ((-1)) := of_decide_eq_true hc
      rw [if_pos hc4] at h
      refine px_D_st 1 (ip1 := 30) (ls1 := [(1, .inl (q3.1)), (0, .inr (.inr 150))]) (st1 := [.inl ((-1))]) (h1 := (px_G1, q3.2)) rfl ?_
      cases h
      exact px_D_iret rfl rfl ⟨rfl, rfl⟩
    · have hc4 : ¬ ((q3.1) = ((-1))) := of_decide_eq_false hc
      rw [if_neg hc4] at h
      refine px_D_st 2 (ip1 := 26) (ls1 := [(1, .inl (q3.1)), (0, .inr (.inr 150))]) (st1 := [.inl (40), .inr (.inr 150)]) (h1 := (px_G1, q3.2)) rfl ?_
      refine px_D_call (as := [.inr (.inr 150), .inl (40)]) (rest := []) rfl rfl rfl rfl ?_
      obtain ⟨q5, hq5, h⟩ := Option.bind_eq_some_iff.mp h
      refine px_D_mono (c_M_readMark (d := d + 0) hq5) ?_
      rintro _ _ ⟨rfl, rfl⟩
      show px_D sc (d + 4) 203 27 [(1, .inl (q3.1)), (0, .inr (.inr 150))] [.inl (q5.1)] (px_G1, q5.2) _
      refine px_D_st 1 (ip1 := 28) (ls1 := [(1, .inl (q3.1)), (0, .inr (.inr 150))]) (st1 := [.inl ((-1)), .inl (q5.1)]) (h1 := (px_G1, q5.2)) rfl ?_
      refine px_D_icmp rfl (fun hc => ?_) (fun hc => ?_)
      · have hc6 : ¬ ((q5.1) = ((-1))) := of_decide_eq_true hc
        rw [if_neg hc6] at h
        refine px_D_st 4 (ip1 := 35) (ls1 := [(1, .inl (q3.1)), (0, .inr (.inr 150))]) (st1 := [.inl (0), .inl (q3.1), .inl (3), .inr (.inr 150)]) (h1 := (px_G1, q5.2)) rfl ?_
        refine px_D_call (as := [.inr (.inr 150), .inl (3), .inl (q3.1), .inl (0)]) (rest := []) rfl rfl rfl rfl ?_
        obtain ⟨q7, hq7, h⟩ := Option.bind_eq_some_iff.mp h
        refine px_D_mono (c_M_emitsStep (d := d + 3) hq7) ?_
        rintro _ _ ⟨rfl, rfl⟩
        show px_D sc (d + 4) 203 36 [(1, .inl (q3.1)), (0, .inr (.inr 150))] [] (px_G1, q7) _
        refine px_D_st 1 (ip1 := 37) (ls1 := [(1, .inl (q3.1)), (0, .inr (.inr 150))]) (st1 := [.inl (0)]) (h1 := (px_G1, q7)) rfl ?_
        cases h
        exact px_D_iret rfl rfl ⟨rfl, rfl⟩
      · have hc6 : (q5.1) = ((-1)) := Decidable.of_not_not (of_decide_eq_false hc)
        rw [if_pos hc6] at h
        refine px_D_st 1 (ip1 := 30) (ls1 := [(1, .inl (q3.1)), (0, .inr (.inr 150))]) (st1 := [.inl ((-1))]) (h1 := (px_G1, q5.2)) rfl ?_
        cases h
        exact px_D_iret rfl rfl ⟨rfl, rfl⟩
  · have hc1 : (s 150 28) = (4) := Decidable.of_not_not (of_decide_eq_false hc)
    rw [if_pos hc1] at h
    refine px_D_st 2 (ip1 := 6) (ls1 := [(0, .inr (.inr 150))]) (st1 := [.inl (3), .inr (.inr 150)]) (h1 := (px_G1, s)) rfl ?_
    refine px_D_call (as := [.inr (.inr 150), .inl (3)]) (rest := []) rfl rfl rfl rfl ?_
    obtain ⟨q8, hq8, h⟩ := Option.bind_eq_some_iff.mp h
    refine px_D_mono (c_M_errs (d := d + 3) hq8) ?_
    rintro _ _ ⟨rfl, rfl⟩
    show px_D sc (d + 4) 203 7 [(0, .inr (.inr 150))] [.inl (q8.1)] (px_G1, q8.2) _
    cases h
    exact px_D_iret rfl rfl ⟨rfl, rfl⟩

def f_M_readAgainEnd (s : px_Z) : Option (Int × px_Z) := (f_M_reads (px_up s 150 28 (px_wr ((s 150 28) - 1))) ).bind (fun q1 => (f_M_emitsStep q1 4 0 0).bind (fun q2 => some (0, q2)))
set_option maxHeartbeats 4000000 in
set_option maxRecDepth 100000 in
theorem c_M_readAgainEnd {sc : List Int} {d : Nat} {s : px_Z} {out : Int × px_Z} (h : f_M_readAgainEnd s  = some out) : px_D sc (d + 3) 204 0 [(0, .inr (.inr 150))] [] (px_G1, s) (px_Qi out) := by
  unfold f_M_readAgainEnd at h
  refine px_D_st 7 (ip1 := 7) (ls1 := [(0, .inr (.inr 150))]) (st1 := [.inr (.inr 150)]) (h1 := (px_G1, px_up s 150 28 (px_wr ((s 150 28) - 1)))) rfl ?_
  refine px_D_call (as := [.inr (.inr 150)]) (rest := []) rfl rfl rfl rfl ?_
  obtain ⟨q1, hq1, h⟩ := Option.bind_eq_some_iff.mp h
  refine px_D_mono (c_M_reads (d := d + 0) hq1) ?_
  rintro _ _ ⟨rfl, rfl⟩
  show px_D sc (d + 3) 204 8 [(0, .inr (.inr 150))] [] (px_G1, q1) _
  refine px_D_st 4 (ip1 := 12) (ls1 := [(0, .inr (.inr 150))]) (st1 := [.inl (0), .inl (0), .inl (4), .inr (.inr 150)]) (h1 := (px_G1, q1)) rfl ?_
  refine px_D_call (as := [.inr (.inr 150), .inl (4), .inl (0), .inl (0)]) (rest := []) rfl rfl rfl rfl ?_
  obtain ⟨q2, hq2, h⟩ := Option.bind_eq_some_iff.mp h
  refine px_D_mono (c_M_emitsStep (d := d + 2) hq2) ?_
  rintro _ _ ⟨rfl, rfl⟩
  show px_D sc (d + 3) 204 13 [(0, .inr (.inr 150))] [] (px_G1, q2) _
  refine px_D_st 1 (ip1 := 14) (ls1 := [(0, .inr (.inr 150))]) (st1 := [.inl (0)]) (h1 := (px_G1, q2)) rfl ?_
  cases h
  exact px_D_iret rfl rfl ⟨rfl, rfl⟩

def l_M_readSteps_3 (k39 : px_Z → Option (Int × px_Z)) : Nat → px_Z → Option (Int × px_Z)
  | 0, _ => none
  | n + 1, s => if (f_M_isDeed s ) = (0) then (if (f_M_isWord s 27) = (0) then (if (s 150 28) ≤ (0) then k39 s  else (if (f_M_isSign s 41) = (0) then k39 s  else (if (f_M_isDeed s ) = (0) then (if (f_M_isWord s 27) = (0) then (f_M_readAgainEnd s ).bind (fun q23 => if (q23.1) = ((-1)) then some (((-1), q23.2)) else l_M_readSteps_3 k39 n q23.2 ) else (f_M_readAgain s ).bind (fun q25 => if (q25.1) = ((-1)) then some (((-1), q25.2)) else l_M_readSteps_3 k39 n q25.2 )) else (f_M_readDeed s ).bind (fun q27 => if (q27.1) = ((-1)) then some (((-1), q27.2)) else l_M_readSteps_3 k39 n q27.2 )))) else (if (f_M_isDeed s ) = (0) then (if (f_M_isWord s 27) = (0) then (f_M_readAgainEnd s ).bind (fun q13 => if (q13.1) = ((-1)) then some (((-1), q13.2)) else l_M_readSteps_3 k39 n q13.2 ) else (f_M_readAgain s ).bind (fun q15 => if (q15.1) = ((-1)) then some (((-1), q15.2)) else l_M_readSteps_3 k39 n q15.2 )) else (f_M_readDeed s ).bind (fun q17 => if (q17.1) = ((-1)) then some (((-1), q17.2)) else l_M_readSteps_3 k39 n q17.2 ))) else (if (f_M_isDeed s ) = (0) then (if (f_M_isWord s 27) = (0) then (f_M_readAgainEnd s ).bind (fun q4 => if (q4.1) = ((-1)) then some (((-1), q4.2)) else l_M_readSteps_3 k39 n q4.2 ) else (f_M_readAgain s ).bind (fun q6 => if (q6.1) = ((-1)) then some (((-1), q6.2)) else l_M_readSteps_3 k39 n q6.2 )) else (f_M_readDeed s ).bind (fun q8 => if (q8.1) = ((-1)) then some (((-1), q8.2)) else l_M_readSteps_3 k39 n q8.2 ))
set_option maxHeartbeats 4000000 in
set_option maxRecDepth 100000 in
theorem cl_M_readSteps_3 {sc : List Int} {d : Nat} {k39 : px_Z → Option (Int × px_Z)}  (hk39 : ∀ (s : px_Z) (out : Int × px_Z), k39 s  = some out → px_D sc (d + 6) 205 39 [(0, .inr (.inr 150))] [] (px_G1, s) (px_Qi out)) : ∀ (n : Nat) (s : px_Z) (out : Int × px_Z), l_M_readSteps_3 k39 n s  = some out → px_D sc (d + 6) 205 3 [(0, .inr (.inr 150))] [] (px_G1, s) (px_Qi out) := by
  intro n
  induction n with
  | zero => intro s out h; cases h
  | succ n ih =>
    intro s out h
    rw [l_M_readSteps_3] at h
    refine px_D_st 1 (ip1 := 4) (ls1 := [(0, .inr (.inr 150))]) (st1 := [.inr (.inr 150)]) (h1 := (px_G1, s)) rfl ?_
    refine px_D_call (as := [.inr (.inr 150)]) (rest := []) rfl rfl rfl rfl ?_
    refine px_D_mono (c_M_isDeed (d := d + 4) rfl) ?_
    rintro _ _ ⟨rfl, rfl⟩
    show px_D sc (d + 6) 205 5 [(0, .inr (.inr 150))] [.inl (f_M_isDeed s )] (px_G1, s) _
    refine px_D_ifc rfl (fun hc => ?_) (fun hc => ?_)
    · have hc1 : ¬ ((f_M_isDeed s ) = (0)) := of_decide_eq_true hc
      rw [if_neg hc1] at h
      refine px_D_st 1 (ip1 := 18) (ls1 := [(0, .inr (.inr 150))]) (st1 := [.inr (.inr 150)]) (h1 := (px_G1, s)) rfl ?_
      refine px_D_call (as := [.inr (.inr 150)]) (rest := []) rfl rfl rfl rfl ?_
      refine px_D_mono (c_M_isDeed (d := d + 4) rfl) ?_
      rintro _ _ ⟨rfl, rfl⟩
      show px_D sc (d + 6) 205 19 [(0, .inr (.inr 150))] [.inl (f_M_isDeed s )] (px_G1, s) _
      refine px_D_ifc rfl (fun hc => ?_) (fun hc => ?_)
      · have hc2 : (f_M_isDeed s ) = (0) := of_decide_eq_true hc
        rw [if_pos hc2] at h
        refine px_D_st 2 (ip1 := 25) (ls1 := [(0, .inr (.inr 150))]) (st1 := [.inl (27), .inr (.inr 150)]) (h1 := (px_G1, s)) rfl ?_
        refine px_D_call (as := [.inr (.inr 150), .inl (27)]) (rest := []) rfl rfl rfl rfl ?_
        refine px_D_mono (c_M_isWord (d := d + 5) rfl) ?_
        rintro _ _ ⟨rfl, rfl⟩
        show px_D sc (d + 6) 205 26 [(0, .inr (.inr 150))] [.inl (f_M_isWord s 27)] (px_G1, s) _
        refine px_D_ifc rfl (fun hc => ?_) (fun hc => ?_)
        · have hc3 : (f_M_isWord s 27) = (0) := of_decide_eq_true hc
          rw [if_pos hc3] at h
          refine px_D_st 1 (ip1 := 31) (ls1 := [(0, .inr (.inr 150))]) (st1 := [.inr (.inr 150)]) (h1 := (px_G1, s)) rfl ?_
          refine px_D_call (as := [.inr (.inr 150)]) (rest := []) rfl rfl rfl rfl ?_
          obtain ⟨q4, hq4, h⟩ := Option.bind_eq_some_iff.mp h
          refine px_D_mono (c_M_readAgainEnd (d := d + 2) hq4) ?_
          rintro _ _ ⟨rfl, rfl⟩
          show px_D sc (d + 6) 205 32 [(0, .inr (.inr 150))] [.inl (q4.1)] (px_G1, q4.2) _
          refine px_D_st 3 (ip1 := 35) (ls1 := [(1, .inl (q4.1)), (0, .inr (.inr 150))]) (st1 := [.inl ((-1)), .inl (q4.1)]) (h1 := (px_G1, q4.2)) rfl ?_
          refine px_D_icmp rfl (fun hc => ?_) (fun hc => ?_)
          · have hc5 : ¬ ((q4.1) = ((-1))) := of_decide_eq_true hc
            rw [if_neg hc5] at h
            refine px_D_st 1 (ip1 := 3) (ls1 := [(1, .inl (q4.1)), (0, .inr (.inr 150))]) (st1 := []) (h1 := (px_G1, q4.2)) rfl ?_
            refine px_D_ls [(0, .inr (.inr 150))] rfl rfl (List.forall_mem_cons.mpr ⟨rfl, fun _ h => absurd h List.not_mem_nil⟩) ?_
            exact ih _ _ h
          · have hc5 : (q4.1) = ((-1)) := Decidable.of_not_not (of_decide_eq_false hc)
            rw [if_pos hc5] at h
            refine px_D_st 1 (ip1 := 37) (ls1 := [(1, .inl (q4.1)), (0, .inr (.inr 150))]) (st1 := [.inl ((-1))]) (h1 := (px_G1, q4.2)) rfl ?_
            cases h
            exact px_D_iret rfl rfl ⟨rfl, rfl⟩
        · have hc3 : ¬ ((f_M_isWord s 27) = (0)) := of_decide_eq_false hc
          rw [if_neg hc3] at h
          refine px_D_st 1 (ip1 := 28) (ls1 := [(0, .inr (.inr 150))]) (st1 := [.inr (.inr 150)]) (h1 := (px_G1, s)) rfl ?_
          refine px_D_call (as := [.inr (.inr 150)]) (rest := []) rfl rfl rfl rfl ?_
          obtain ⟨q6, hq6, h⟩ := Option.bind_eq_some_iff.mp h
          refine px_D_mono (c_M_readAgain (d := d + 1) hq6) ?_
          rintro _ _ ⟨rfl, rfl⟩
          show px_D sc (d + 6) 205 29 [(0, .inr (.inr 150))] [.inl (q6.1)] (px_G1, q6.2) _
          refine px_D_st 4 (ip1 := 35) (ls1 := [(1, .inl (q6.1)), (0, .inr (.inr 150))]) (st1 := [.inl ((-1)), .inl (q6.1)]) (h1 := (px_G1, q6.2)) rfl ?_
          refine px_D_icmp rfl (fun hc => ?_) (fun hc => ?_)
          · have hc7 : ¬ ((q6.1) = ((-1))) := of_decide_eq_true hc
            rw [if_neg hc7] at h
            refine px_D_st 1 (ip1 := 3) (ls1 := [(1, .inl (q6.1)), (0, .inr (.inr 150))]) (st1 := []) (h1 := (px_G1, q6.2)) rfl ?_
            refine px_D_ls [(0, .inr (.inr 150))] rfl rfl (List.forall_mem_cons.mpr ⟨rfl, fun _ h => absurd h List.not_mem_nil⟩) ?_
            exact ih _ _ h
          · have hc7 : (q6.1) = ((-1)) := Decidable.of_not_not (of_decide_eq_false hc)
            rw [if_pos hc7] at h
            refine px_D_st 1 (ip1 := 37) (ls1 := [(1, .inl (q6.1)), (0, .inr (.inr 150))]) (st1 := [.inl ((-1))]) (h1 := (px_G1, q6.2)) rfl ?_
            cases h
            exact px_D_iret rfl rfl ⟨rfl, rfl⟩
      · have hc2 : ¬ ((f_M_isDeed s ) = (0)) := of_decide_eq_false hc
        rw [if_neg hc2] at h
        refine px_D_st 1 (ip1 := 21) (ls1 := [(0, .inr (.inr 150))]) (st1 := [.inr (.inr 150)]) (h1 := (px_G1, s)) rfl ?_
        refine px_D_call (as := [.inr (.inr 150)]) (rest := []) rfl rfl rfl rfl ?_
        obtain ⟨q8, hq8, h⟩ := Option.bind_eq_some_iff.mp h
        refine px_D_mono (c_M_readDeed (d := d + 0) hq8) ?_
        rintro _ _ ⟨rfl, rfl⟩
        show px_D sc (d + 6) 205 22 [(0, .inr (.inr 150))] [.inl (q8.1)] (px_G1, q8.2) _
        refine px_D_st 4 (ip1 := 35) (ls1 := [(1, .inl (q8.1)), (0, .inr (.inr 150))]) (st1 := [.inl ((-1)), .inl (q8.1)]) (h1 := (px_G1, q8.2)) rfl ?_
        refine px_D_icmp rfl (fun hc => ?_) (fun hc => ?_)
        · have hc9 : ¬ ((q8.1) = ((-1))) := of_decide_eq_true hc
          rw [if_neg hc9] at h
          refine px_D_st 1 (ip1 := 3) (ls1 := [(1, .inl (q8.1)), (0, .inr (.inr 150))]) (st1 := []) (h1 := (px_G1, q8.2)) rfl ?_
          refine px_D_ls [(0, .inr (.inr 150))] rfl rfl (List.forall_mem_cons.mpr ⟨rfl, fun _ h => absurd h List.not_mem_nil⟩) ?_
          exact ih _ _ h
        · have hc9 : (q8.1) = ((-1)) := Decidable.of_not_not (of_decide_eq_false hc)
          rw [if_pos hc9] at h
          refine px_D_st 1 (ip1 := 37) (ls1 := [(1, .inl (q8.1)), (0, .inr (.inr 150))]) (st1 := [.inl ((-1))]) (h1 := (px_G1, q8.2)) rfl ?_
          cases h
          exact px_D_iret rfl rfl ⟨rfl, rfl⟩
    · have hc1 : (f_M_isDeed s ) = (0) := Decidable.of_not_not (of_decide_eq_false hc)
      rw [if_pos hc1] at h
      refine px_D_st 2 (ip1 := 8) (ls1 := [(0, .inr (.inr 150))]) (st1 := [.inl (27), .inr (.inr 150)]) (h1 := (px_G1, s)) rfl ?_
      refine px_D_call (as := [.inr (.inr 150), .inl (27)]) (rest := []) rfl rfl rfl rfl ?_
      refine px_D_mono (c_M_isWord (d := d + 5) rfl) ?_
      rintro _ _ ⟨rfl, rfl⟩
      show px_D sc (d + 6) 205 9 [(0, .inr (.inr 150))] [.inl (f_M_isWord s 27)] (px_G1, s) _
      refine px_D_ifc rfl (fun hc => ?_) (fun hc => ?_)
      · have hc10 : ¬ ((f_M_isWord s 27) = (0)) := of_decide_eq_true hc
        rw [if_neg hc10] at h
        refine px_D_st 1 (ip1 := 18) (ls1 := [(0, .inr (.inr 150))]) (st1 := [.inr (.inr 150)]) (h1 := (px_G1, s)) rfl ?_
        refine px_D_call (as := [.inr (.inr 150)]) (rest := []) rfl rfl rfl rfl ?_
        refine px_D_mono (c_M_isDeed (d := d + 4) rfl) ?_
        rintro _ _ ⟨rfl, rfl⟩
        show px_D sc (d + 6) 205 19 [(0, .inr (.inr 150))] [.inl (f_M_isDeed s )] (px_G1, s) _
        refine px_D_ifc rfl (fun hc => ?_) (fun hc => ?_)
        · have hc11 : (f_M_isDeed s ) = (0) := of_decide_eq_true hc
          rw [if_pos hc11] at h
          refine px_D_st 2 (ip1 := 25) (ls1 := [(0, .inr (.inr 150))]) (st1 := [.inl (27), .inr (.inr 150)]) (h1 := (px_G1, s)) rfl ?_
          refine px_D_call (as := [.inr (.inr 150), .inl (27)]) (rest := []) rfl rfl rfl rfl ?_
          refine px_D_mono (c_M_isWord (d := d + 5) rfl) ?_
          rintro _ _ ⟨rfl, rfl⟩
          show px_D sc (d + 6) 205 26 [(0, .inr (.inr 150))] [.inl (f_M_isWord s 27)] (px_G1, s) _
          refine px_D_ifc rfl (fun hc => ?_) (fun hc => ?_)
          · have hc12 : (f_M_isWord s 27) = (0) := of_decide_eq_true hc
            rw [if_pos hc12] at h
            refine px_D_st 1 (ip1 := 31) (ls1 := [(0, .inr (.inr 150))]) (st1 := [.inr (.inr 150)]) (h1 := (px_G1, s)) rfl ?_
            refine px_D_call (as := [.inr (.inr 150)]) (rest := []) rfl rfl rfl rfl ?_
            obtain ⟨q13, hq13, h⟩ := Option.bind_eq_some_iff.mp h
            refine px_D_mono (c_M_readAgainEnd (d := d + 2) hq13) ?_
            rintro _ _ ⟨rfl, rfl⟩
            show px_D sc (d + 6) 205 32 [(0, .inr (.inr 150))] [.inl (q13.1)] (px_G1, q13.2) _
            refine px_D_st 3 (ip1 := 35) (ls1 := [(1, .inl (q13.1)), (0, .inr (.inr 150))]) (st1 := [.inl ((-1)), .inl (q13.1)]) (h1 := (px_G1, q13.2)) rfl ?_
            refine px_D_icmp rfl (fun hc => ?_) (fun hc => ?_)
            · have hc14 : ¬ ((q13.1) = ((-1))) := of_decide_eq_true hc
              rw [if_neg hc14] at h
              refine px_D_st 1 (ip1 := 3) (ls1 := [(1, .inl (q13.1)), (0, .inr (.inr 150))]) (st1 := []) (h1 := (px_G1, q13.2)) rfl ?_
              refine px_D_ls [(0, .inr (.inr 150))] rfl rfl (List.forall_mem_cons.mpr ⟨rfl, fun _ h => absurd h List.not_mem_nil⟩) ?_
              exact ih _ _ h
            · have hc14 : (q13.1) = ((-1)) := Decidable.of_not_not (of_decide_eq_false hc)
              rw [if_pos hc14] at h
              refine px_D_st 1 (ip1 := 37) (ls1 := [(1, .inl (q13.1)), (0, .inr (.inr 150))]) (st1 := [.inl ((-1))]) (h1 := (px_G1, q13.2)) rfl ?_
              cases h
              exact px_D_iret rfl rfl ⟨rfl, rfl⟩
          · have hc12 : ¬ ((f_M_isWord s 27) = (0)) := of_decide_eq_false hc
            rw [if_neg hc12] at h
            refine px_D_st 1 (ip1 := 28) (ls1 := [(0, .inr (.inr 150))]) (st1 := [.inr (.inr 150)]) (h1 := (px_G1, s)) rfl ?_
            refine px_D_call (as := [.inr (.inr 150)]) (rest := []) rfl rfl rfl rfl ?_
            obtain ⟨q15, hq15, h⟩ := Option.bind_eq_some_iff.mp h
            refine px_D_mono (c_M_readAgain (d := d + 1) hq15) ?_
            rintro _ _ ⟨rfl, rfl⟩
            show px_D sc (d + 6) 205 29 [(0, .inr (.inr 150))] [.inl (q15.1)] (px_G1, q15.2) _
            refine px_D_st 4 (ip1 := 35) (ls1 := [(1, .inl (q15.1)), (0, .inr (.inr 150))]) (st1 := [.inl ((-1)), .inl (q15.1)]) (h1 := (px_G1, q15.2)) rfl ?_
            refine px_D_icmp rfl (fun hc => ?_) (fun hc => ?_)
            · have hc16 : ¬ ((q15.1) = ((-1))) := of_decide_eq_true hc
              rw [if_neg hc16] at h
              refine px_D_st 1 (ip1 := 3) (ls1 := [(1, .inl (q15.1)), (0, .inr (.inr 150))]) (st1 := []) (h1 := (px_G1, q15.2)) rfl ?_
              refine px_D_ls [(0, .inr (.inr 150))] rfl rfl (List.forall_mem_cons.mpr ⟨rfl, fun _ h => absurd h List.not_mem_nil⟩) ?_
              exact ih _ _ h
            · have hc16 : (q15.1) = ((-1)) := Decidable.of_not_not (of_decide_eq_false hc)
              rw [if_pos hc16] at h
              refine px_D_st 1 (ip1 := 37) (ls1 := [(1, .inl (q15.1)), (0, .inr (.inr 150))]) (st1 := [.inl ((-1))]) (h1 := (px_G1, q15.2)) rfl ?_
              cases h
              exact px_D_iret rfl rfl ⟨rfl, rfl⟩
        · have hc11 : ¬ ((f_M_isDeed s ) = (0)) := of_decide_eq_false hc
          rw [if_neg hc11] at h
          refine px_D_st 1 (ip1 := 21) (ls1 := [(0, .inr (.inr 150))]) (st1 := [.inr (.inr 150)]) (h1 := (px_G1, s)) rfl ?_
          refine px_D_call (as := [.inr (.inr 150)]) (rest := []) rfl rfl rfl rfl ?_
          obtain ⟨q17, hq17, h⟩ := Option.bind_eq_some_iff.mp h
          refine px_D_mono (c_M_readDeed (d := d + 0) hq17) ?_
          rintro _ _ ⟨rfl, rfl⟩
          show px_D sc (d + 6) 205 22 [(0, .inr (.inr 150))] [.inl (q17.1)] (px_G1, q17.2) _
          refine px_D_st 4 (ip1 := 35) (ls1 := [(1, .inl (q17.1)), (0, .inr (.inr 150))]) (st1 := [.inl ((-1)), .inl (q17.1)]) (h1 := (px_G1, q17.2)) rfl ?_
          refine px_D_icmp rfl (fun hc => ?_) (fun hc => ?_)
          · have hc18 : ¬ ((q17.1) = ((-1))) := of_decide_eq_true hc
            rw [if_neg hc18] at h
            refine px_D_st 1 (ip1 := 3) (ls1 := [(1, .inl (q17.1)), (0, .inr (.inr 150))]) (st1 := []) (h1 := (px_G1, q17.2)) rfl ?_
            refine px_D_ls [(0, .inr (.inr 150))] rfl rfl (List.forall_mem_cons.mpr ⟨rfl, fun _ h => absurd h List.not_mem_nil⟩) ?_
            exact ih _ _ h
          · have hc18 : (q17.1) = ((-1)) := Decidable.of_not_not (of_decide_eq_false hc)
            rw [if_pos hc18] at h
            refine px_D_st 1 (ip1 := 37) (ls1 := [(1, .inl (q17.1)), (0, .inr (.inr 150))]) (st1 := [.inl ((-1))]) (h1 := (px_G1, q17.2)) rfl ?_
            cases h
            exact px_D_iret rfl rfl ⟨rfl, rfl⟩
      · have hc10 : (f_M_isWord s 27) = (0) := Decidable.of_not_not (of_decide_eq_false hc)
        rw [if_pos hc10] at h
        refine px_D_st 2 (ip1 := 12) (ls1 := [(0, .inr (.inr 150))]) (st1 := [.inl (s 150 28)]) (h1 := (px_G1, s)) rfl ?_
        refine px_D_ifc rfl (fun hc => ?_) (fun hc => ?_)
        · have hc19 : (s 150 28) ≤ (0) := of_decide_eq_true hc
          rw [if_pos hc19] at h
          refine px_D_ls [(0, .inr (.inr 150))] rfl rfl (List.forall_mem_cons.mpr ⟨rfl, fun _ h => absurd h List.not_mem_nil⟩) ?_
          exact hk39 _ _ h
        · have hc19 : ¬ ((s 150 28) ≤ (0)) := of_decide_eq_false hc
          rw [if_neg hc19] at h
          refine px_D_st 2 (ip1 := 15) (ls1 := [(0, .inr (.inr 150))]) (st1 := [.inl (41), .inr (.inr 150)]) (h1 := (px_G1, s)) rfl ?_
          refine px_D_call (as := [.inr (.inr 150), .inl (41)]) (rest := []) rfl rfl rfl rfl ?_
          refine px_D_mono (c_M_isSign (d := d + 5) rfl) ?_
          rintro _ _ ⟨rfl, rfl⟩
          show px_D sc (d + 6) 205 16 [(0, .inr (.inr 150))] [.inl (f_M_isSign s 41)] (px_G1, s) _
          refine px_D_ifc rfl (fun hc => ?_) (fun hc => ?_)
          · have hc20 : (f_M_isSign s 41) = (0) := of_decide_eq_true hc
            rw [if_pos hc20] at h
            refine px_D_ls [(0, .inr (.inr 150))] rfl rfl (List.forall_mem_cons.mpr ⟨rfl, fun _ h => absurd h List.not_mem_nil⟩) ?_
            exact hk39 _ _ h
          · have hc20 : ¬ ((f_M_isSign s 41) = (0)) := of_decide_eq_false hc
            rw [if_neg hc20] at h
            refine px_D_st 1 (ip1 := 18) (ls1 := [(0, .inr (.inr 150))]) (st1 := [.inr (.inr 150)]) (h1 := (px_G1, s)) rfl ?_
            refine px_D_call (as := [.inr (.inr 150)]) (rest := []) rfl rfl rfl rfl ?_
            refine px_D_mono (c_M_isDeed (d := d + 4) rfl) ?_
            rintro _ _ ⟨rfl, rfl⟩
            show px_D sc (d + 6) 205 19 [(0, .inr (.inr 150))] [.inl (f_M_isDeed s )] (px_G1, s) _
            refine px_D_ifc rfl (fun hc => ?_) (fun hc => ?_)
            · have hc21 : (f_M_isDeed s ) = (0) := of_decide_eq_true hc
              rw [if_pos hc21] at h
              refine px_D_st 2 (ip1 := 25) (ls1 := [(0, .inr (.inr 150))]) (st1 := [.inl (27), .inr (.inr 150)]) (h1 := (px_G1, s)) rfl ?_
              refine px_D_call (as := [.inr (.inr 150), .inl (27)]) (rest := []) rfl rfl rfl rfl ?_
              refine px_D_mono (c_M_isWord (d := d + 5) rfl) ?_
              rintro _ _ ⟨rfl, rfl⟩
              show px_D sc (d + 6) 205 26 [(0, .inr (.inr 150))] [.inl (f_M_isWord s 27)] (px_G1, s) _
              refine px_D_ifc rfl (fun hc => ?_) (fun hc => ?_)
              · have hc22 : (f_M_isWord s 27) = (0) := of_decide_eq_true hc
                rw [if_pos hc22] at h
                refine px_D_st 1 (ip1 := 31) (ls1 := [(0, .inr (.inr 150))]) (st1 := [.inr (.inr 150)]) (h1 := (px_G1, s)) rfl ?_
                refine px_D_call (as := [.inr (.inr 150)]) (rest := []) rfl rfl rfl rfl ?_
                obtain ⟨q23, hq23, h⟩ := Option.bind_eq_some_iff.mp h
                refine px_D_mono (c_M_readAgainEnd (d := d + 2) hq23) ?_
                rintro _ _ ⟨rfl, rfl⟩
                show px_D sc (d + 6) 205 32 [(0, .inr (.inr 150))] [.inl (q23.1)] (px_G1, q23.2) _
                refine px_D_st 3 (ip1 := 35) (ls1 := [(1, .inl (q23.1)), (0, .inr (.inr 150))]) (st1 := [.inl ((-1)), .inl (q23.1)]) (h1 := (px_G1, q23.2)) rfl ?_
                refine px_D_icmp rfl (fun hc => ?_) (fun hc => ?_)
                · have hc24 : ¬ ((q23.1) = ((-1))) := of_decide_eq_true hc
                  rw [if_neg hc24] at h
                  refine px_D_st 1 (ip1 := 3) (ls1 := [(1, .inl (q23.1)), (0, .inr (.inr 150))]) (st1 := []) (h1 := (px_G1, q23.2)) rfl ?_
                  refine px_D_ls [(0, .inr (.inr 150))] rfl rfl (List.forall_mem_cons.mpr ⟨rfl, fun _ h => absurd h List.not_mem_nil⟩) ?_
                  exact ih _ _ h
                · have hc24 : (q23.1) = ((-1)) := Decidable.of_not_not (of_decide_eq_false hc)
                  rw [if_pos hc24] at h
                  refine px_D_st 1 (ip1 := 37) (ls1 := [(1, .inl (q23.1)), (0, .inr (.inr 150))]) (st1 := [.inl ((-1))]) (h1 := (px_G1, q23.2)) rfl ?_
                  cases h
                  exact px_D_iret rfl rfl ⟨rfl, rfl⟩
              · have hc22 : ¬ ((f_M_isWord s 27) = (0)) := of_decide_eq_false hc
                rw [if_neg hc22] at h
                refine px_D_st 1 (ip1 := 28) (ls1 := [(0, .inr (.inr 150))]) (st1 := [.inr (.inr 150)]) (h1 := (px_G1, s)) rfl ?_
                refine px_D_call (as := [.inr (.inr 150)]) (rest := []) rfl rfl rfl rfl ?_
                obtain ⟨q25, hq25, h⟩ := Option.bind_eq_some_iff.mp h
                refine px_D_mono (c_M_readAgain (d := d + 1) hq25) ?_
                rintro _ _ ⟨rfl, rfl⟩
                show px_D sc (d + 6) 205 29 [(0, .inr (.inr 150))] [.inl (q25.1)] (px_G1, q25.2) _
                refine px_D_st 4 (ip1 := 35) (ls1 := [(1, .inl (q25.1)), (0, .inr (.inr 150))]) (st1 := [.inl ((-1)), .inl (q25.1)]) (h1 := (px_G1, q25.2)) rfl ?_
                refine px_D_icmp rfl (fun hc => ?_) (fun hc => ?_)
                · have hc26 : ¬ ((q25.1) = ((-1))) := of_decide_eq_true hc
                  rw [if_neg hc26] at h
                  refine px_D_st 1 (ip1 := 3) (ls1 := [(1, .inl (q25.1)), (0, .inr (.inr 150))]) (st1 := []) (h1 := (px_G1, q25.2)) rfl ?_
                  refine px_D_ls [(0, .inr (.inr 150))] rfl rfl (List.forall_mem_cons.mpr ⟨rfl, fun _ h => absurd h List.not_mem_nil⟩) ?_
                  exact ih _ _ h
                · have hc26 : (q25.1) = ((-1)) := Decidable.of_not_not (of_decide_eq_false hc)
                  rw [if_pos hc26] at h
                  refine px_D_st 1 (ip1 := 37) (ls1 := [(1, .inl (q25.1)), (0, .inr (.inr 150))]) (st1 := [.inl ((-1))]) (h1 := (px_G1, q25.2)) rfl ?_
                  cases h
                  exact px_D_iret rfl rfl ⟨rfl, rfl⟩
            · have hc21 : ¬ ((f_M_isDeed s ) = (0)) := of_decide_eq_false hc
              rw [if_neg hc21] at h
              refine px_D_st 1 (ip1 := 21) (ls1 := [(0, .inr (.inr 150))]) (st1 := [.inr (.inr 150)]) (h1 := (px_G1, s)) rfl ?_
              refine px_D_call (as := [.inr (.inr 150)]) (rest := []) rfl rfl rfl rfl ?_
              obtain ⟨q27, hq27, h⟩ := Option.bind_eq_some_iff.mp h
              refine px_D_mono (c_M_readDeed (d := d + 0) hq27) ?_
              rintro _ _ ⟨rfl, rfl⟩
              show px_D sc (d + 6) 205 22 [(0, .inr (.inr 150))] [.inl (q27.1)] (px_G1, q27.2) _
              refine px_D_st 4 (ip1 := 35) (ls1 := [(1, .inl (q27.1)), (0, .inr (.inr 150))]) (st1 := [.inl ((-1)), .inl (q27.1)]) (h1 := (px_G1, q27.2)) rfl ?_
              refine px_D_icmp rfl (fun hc => ?_) (fun hc => ?_)
              · have hc28 : ¬ ((q27.1) = ((-1))) := of_decide_eq_true hc
                rw [if_neg hc28] at h
                refine px_D_st 1 (ip1 := 3) (ls1 := [(1, .inl (q27.1)), (0, .inr (.inr 150))]) (st1 := []) (h1 := (px_G1, q27.2)) rfl ?_
                refine px_D_ls [(0, .inr (.inr 150))] rfl rfl (List.forall_mem_cons.mpr ⟨rfl, fun _ h => absurd h List.not_mem_nil⟩) ?_
                exact ih _ _ h
              · have hc28 : (q27.1) = ((-1)) := Decidable.of_not_not (of_decide_eq_false hc)
                rw [if_pos hc28] at h
                refine px_D_st 1 (ip1 := 37) (ls1 := [(1, .inl (q27.1)), (0, .inr (.inr 150))]) (st1 := [.inl ((-1))]) (h1 := (px_G1, q27.2)) rfl ?_
                cases h
                exact px_D_iret rfl rfl ⟨rfl, rfl⟩
def j_M_readSteps_j39 (s : px_Z) : Option (Int × px_Z) := if (s 150 28) = (0) then (if (s 150 16) = (0) then some (0, s) else (f_M_errs s 1).bind (fun q32 => some (q32.1, q32.2))) else (f_M_errs s 1).bind (fun q30 => some (q30.1, q30.2))
set_option maxHeartbeats 4000000 in
set_option maxRecDepth 100000 in
theorem cj_M_readSteps_j39 {sc : List Int} {d : Nat} {s : px_Z} {out : Int × px_Z} (h : j_M_readSteps_j39 s  = some out) : px_D sc (d + 6) 205 39 [(0, .inr (.inr 150))] [] (px_G1, s) (px_Qi out) := by
  unfold j_M_readSteps_j39 at h
  refine px_D_st 2 (ip1 := 41) (ls1 := [(0, .inr (.inr 150))]) (st1 := [.inl (s 150 28)]) (h1 := (px_G1, s)) rfl ?_
  refine px_D_ifc rfl (fun hc => ?_) (fun hc => ?_)
  · have hc29 : ¬ ((s 150 28) = (0)) := of_decide_eq_true hc
    rw [if_neg hc29] at h
    refine px_D_st 2 (ip1 := 49) (ls1 := [(0, .inr (.inr 150))]) (st1 := [.inl (1), .inr (.inr 150)]) (h1 := (px_G1, s)) rfl ?_
    refine px_D_call (as := [.inr (.inr 150), .inl (1)]) (rest := []) rfl rfl rfl rfl ?_
    obtain ⟨q30, hq30, h⟩ := Option.bind_eq_some_iff.mp h
    refine px_D_mono (c_M_errs (d := d + 5) hq30) ?_
    rintro _ _ ⟨rfl, rfl⟩
    show px_D sc (d + 6) 205 50 [(0, .inr (.inr 150))] [.inl (q30.1)] (px_G1, q30.2) _
    cases h
    exact px_D_iret rfl rfl ⟨rfl, rfl⟩
  · have hc29 : (s 150 28) = (0) := Decidable.of_not_not (of_decide_eq_false hc)
    rw [if_pos hc29] at h
    refine px_D_st 2 (ip1 := 44) (ls1 := [(0, .inr (.inr 150))]) (st1 := [.inl (s 150 16)]) (h1 := (px_G1, s)) rfl ?_
    refine px_D_ifc rfl (fun hc => ?_) (fun hc => ?_)
    · have hc31 : ¬ ((s 150 16) = (0)) := of_decide_eq_true hc
      rw [if_neg hc31] at h
      refine px_D_st 2 (ip1 := 49) (ls1 := [(0, .inr (.inr 150))]) (st1 := [.inl (1), .inr (.inr 150)]) (h1 := (px_G1, s)) rfl ?_
      refine px_D_call (as := [.inr (.inr 150), .inl (1)]) (rest := []) rfl rfl rfl rfl ?_
      obtain ⟨q32, hq32, h⟩ := Option.bind_eq_some_iff.mp h
      refine px_D_mono (c_M_errs (d := d + 5) hq32) ?_
      rintro _ _ ⟨rfl, rfl⟩
      show px_D sc (d + 6) 205 50 [(0, .inr (.inr 150))] [.inl (q32.1)] (px_G1, q32.2) _
      cases h
      exact px_D_iret rfl rfl ⟨rfl, rfl⟩
    · have hc31 : (s 150 16) = (0) := Decidable.of_not_not (of_decide_eq_false hc)
      rw [if_pos hc31] at h
      refine px_D_st 2 (ip1 := 50) (ls1 := [(0, .inr (.inr 150))]) (st1 := [.inl (0)]) (h1 := (px_G1, s)) rfl ?_
      cases h
      exact px_D_iret rfl rfl ⟨rfl, rfl⟩
def f_M_readSteps (s : px_Z) : Option (Int × px_Z) := l_M_readSteps_3 (fun s => j_M_readSteps_j39 s ) px_big (px_up s 150 42 0) 
set_option maxHeartbeats 4000000 in
set_option maxRecDepth 100000 in
theorem c_M_readSteps {sc : List Int} {d : Nat} {s : px_Z} {out : Int × px_Z} (h : f_M_readSteps s  = some out) : px_D sc (d + 6) 205 0 [(0, .inr (.inr 150))] [] (px_G1, s) (px_Qi out) := by
  unfold f_M_readSteps at h
  refine px_D_st 3 (ip1 := 3) (ls1 := [(0, .inr (.inr 150))]) (st1 := []) (h1 := (px_G1, px_up s 150 42 0)) rfl ?_
  refine px_D_ls [(0, .inr (.inr 150))] rfl rfl (List.forall_mem_cons.mpr ⟨rfl, fun _ h => absurd h List.not_mem_nil⟩) ?_
  refine cl_M_readSteps_3 ?_ px_big _ _ h
  · intro s out h
    refine px_D_ls [(0, .inr (.inr 150))] rfl rfl (List.forall_mem_cons.mpr ⟨rfl, fun _ h => absurd h List.not_mem_nil⟩) ?_
    exact cj_M_readSteps_j39 h

def l_M_laysDeeds_6 (k77 : px_Z → Option (Int × px_Z)) : Nat → px_Z → Int → Int → Int → Option (Int × px_Z)
  | 0, _, _, _, _ => none
  | n + 1, s, x1, x2, x3 => if (s 150 42) ≤ (x3) then some (x1, s) else (if 0 ≤ (x3) ∧ (x3) < 140 then if (s 168 x3.toNat) = (3) then (if 0 ≤ (x2) ∧ (x2) < 4 then if 0 ≤ (x3) ∧ (x3) < 140 then if 0 ≤ (x2) ∧ (x2) < 4 then l_M_laysDeeds_6 k77 n (px_up (px_up s 172 x2.toNat x3) 173 x2.toNat ((px_up s 172 x2.toNat x3) 169 x3.toNat)) x1 (px_wr (x2 + 1)) (px_wr (x3 + 1)) else none else none else none) else (if 0 ≤ (x3) ∧ (x3) < 140 then if (s 168 x3.toNat) = (4) then (if 0 ≤ (px_wr (x2 - 1)) ∧ (px_wr (x2 - 1)) < 4 then if 0 ≤ (px_wr (x2 - 1)) ∧ (px_wr (x2 - 1)) < 4 then if 0 ≤ (px_wr (x2 - 1)) ∧ (px_wr (x2 - 1)) < 4 then if ((px_up s 173 (px_wr (x2 - 1)).toNat (px_wr ((s 173 (px_wr (x2 - 1)).toNat) - 1))) 173 (px_wr (x2 - 1)).toNat) ≤ (0) then l_M_laysDeeds_6 k77 n (px_up s 173 (px_wr (x2 - 1)).toNat (px_wr ((s 173 (px_wr (x2 - 1)).toNat) - 1))) x1 (px_wr (x2 - 1)) (px_wr (x3 + 1)) else (if 0 ≤ (px_wr (x2 - 1)) ∧ (px_wr (x2 - 1)) < 4 then l_M_laysDeeds_6 k77 n (px_up s 173 (px_wr (x2 - 1)).toNat (px_wr ((s 173 (px_wr (x2 - 1)).toNat) - 1))) x1 x2 (px_wr (((px_up s 173 (px_wr (x2 - 1)).toNat (px_wr ((s 173 (px_wr (x2 - 1)).toNat) - 1))) 172 (px_wr (x2 - 1)).toNat) + 1)) else none) else none else none else none) else (if (x1) = (60) then k77 s  else (if 0 ≤ (x3) ∧ (x3) < 140 then if 0 ≤ (px_wr (180 + (px_wr (3 * x1)))) ∧ (px_wr (180 + (px_wr (3 * x1)))) < 360 then if 0 ≤ (x3) ∧ (x3) < 140 then if 0 ≤ (px_wr ((px_wr (180 + (px_wr (3 * x1)))) + 1)) ∧ (px_wr ((px_wr (180 + (px_wr (3 * x1)))) + 1)) < 360 then if 0 ≤ (x3) ∧ (x3) < 140 then if 0 ≤ (px_wr ((px_wr (180 + (px_wr (3 * x1)))) + 2)) ∧ (px_wr ((px_wr (180 + (px_wr (3 * x1)))) + 2)) < 360 then l_M_laysDeeds_6 k77 n (px_up (px_up (px_up s 171 (px_wr (180 + (px_wr (3 * x1)))).toNat (s 168 x3.toNat)) 171 (px_wr ((px_wr (180 + (px_wr (3 * x1)))) + 1)).toNat ((px_up s 171 (px_wr (180 + (px_wr (3 * x1)))).toNat (s 168 x3.toNat)) 169 x3.toNat)) 171 (px_wr ((px_wr (180 + (px_wr (3 * x1)))) + 2)).toNat ((px_up (px_up s 171 (px_wr (180 + (px_wr (3 * x1)))).toNat (s 168 x3.toNat)) 171 (px_wr ((px_wr (180 + (px_wr (3 * x1)))) + 1)).toNat ((px_up s 171 (px_wr (180 + (px_wr (3 * x1)))).toNat (s 168 x3.toNat)) 169 x3.toNat)) 170 x3.toNat)) (px_wr (x1 + 1)) x2 (px_wr (x3 + 1)) else none else none else none else none else none else none)) else none) else none)
set_option maxHeartbeats 4000000 in
set_option maxRecDepth 100000 in
theorem cl_M_laysDeeds_6 {sc : List Int} {d : Nat} {k77 : px_Z → Option (Int × px_Z)}  (hk77 : ∀ (s : px_Z) (out : Int × px_Z), k77 s  = some out → px_D sc (d + 1) 206 77 [(0, .inr (.inr 150))] [] (px_G1, s) (px_Qi out)) : ∀ (n : Nat) (s : px_Z) (x1 : Int) (x2 : Int) (x3 : Int) (out : Int × px_Z), l_M_laysDeeds_6 k77 n s x1 x2 x3 = some out → px_D sc (d + 1) 206 6 [(0, .inr (.inr 150)), (1, .inl (x1)), (2, .inl (x2)), (3, .inl (x3))] [] (px_G1, s) (px_Qi out) := by
  intro n
  induction n with
  | zero => intro s x1 x2 x3 out h; cases h
  | succ n ih =>
    intro s x1 x2 x3 out h
    rw [l_M_laysDeeds_6] at h
    refine px_D_st 3 (ip1 := 9) (ls1 := [(0, .inr (.inr 150)), (1, .inl (x1)), (2, .inl (x2)), (3, .inl (x3))]) (st1 := [.inl (s 150 42), .inl (x3)]) (h1 := (px_G1, s)) rfl ?_
    refine px_D_icmp rfl (fun hc => ?_) (fun hc => ?_)
    · have hc1 : (s 150 42) ≤ (x3) := of_decide_eq_true hc
      rw [if_pos hc1] at h
      refine px_D_st 1 (ip1 := 122) (ls1 := [(0, .inr (.inr 150)), (1, .inl (x1)), (2, .inl (x2)), (3, .inl (x3))]) (st1 := [.inl (x1)]) (h1 := (px_G1, s)) rfl ?_
      cases h
      exact px_D_iret rfl rfl ⟨rfl, rfl⟩
    · have hc1 : ¬ ((s 150 42) ≤ (x3)) := of_decide_eq_false hc
      rw [if_neg hc1] at h
      refine px_D_st 3 (ip1 := 13) (ls1 := [(0, .inr (.inr 150)), (1, .inl (x1)), (2, .inl (x2)), (3, .inl (x3))]) (st1 := [.inl (x3), .inr (.inr 168)]) (h1 := (px_G1, s)) rfl ?_
      by_cases hc2 : 0 ≤ (x3) ∧ (x3) < 140
      case neg => rw [if_neg hc2] at h; cases h
      rw [if_pos hc2] at h
      refine px_D_iald (k := 163) (n := 140) rfl rfl hc2 ?_
      refine px_D_st 1 (ip1 := 15) (ls1 := [(0, .inr (.inr 150)), (1, .inl (x1)), (2, .inl (x2)), (3, .inl (x3))]) (st1 := [.inl (3), .inl (s 168 x3.toNat)]) (h1 := (px_G1, s)) rfl ?_
      refine px_D_icmp rfl (fun hc => ?_) (fun hc => ?_)
      · have hc3 : ¬ ((s 168 x3.toNat) = (3)) := of_decide_eq_true hc
        rw [if_neg hc3] at h
        refine px_D_st 3 (ip1 := 37) (ls1 := [(0, .inr (.inr 150)), (1, .inl (x1)), (2, .inl (x2)), (3, .inl (x3))]) (st1 := [.inl (x3), .inr (.inr 168)]) (h1 := (px_G1, s)) rfl ?_
        by_cases hc4 : 0 ≤ (x3) ∧ (x3) < 140
        case neg => rw [if_neg hc4] at h; cases h
        rw [if_pos hc4] at h
        refine px_D_iald (k := 163) (n := 140) rfl rfl hc4 ?_
        refine px_D_st 1 (ip1 := 39) (ls1 := [(0, .inr (.inr 150)), (1, .inl (x1)), (2, .inl (x2)), (3, .inl (x3))]) (st1 := [.inl (4), .inl (s 168 x3.toNat)]) (h1 := (px_G1, s)) rfl ?_
        refine px_D_icmp rfl (fun hc => ?_) (fun hc => ?_)
        · have hc5 : ¬ ((s 168 x3.toNat) = (4)) := of_decide_eq_true hc
          rw [if_neg hc5] at h
          refine px_D_st 2 (ip1 := 76) (ls1 := [(0, .inr (.inr 150)), (1, .inl (x1)), (2, .inl (x2)), (3, .inl (x3))]) (st1 := [.inl (60), .inl (x1)]) (h1 := (px_G1, s)) rfl ?_
          refine px_D_icmp rfl (fun hc => ?_) (fun hc => ?_)
          · have hc6 : ¬ ((x1) = (60)) := of_decide_eq_true hc
            rw [if_neg hc6] at h
            refine px_D_st 12 (ip1 := 93) (ls1 := [(4, .inl (px_wr (180 + (px_wr (3 * x1))))), (0, .inr (.inr 150)), (1, .inl (x1)), (2, .inl (x2)), (3, .inl (x3))]) (st1 := [.inl (x3), .inr (.inr 168), .inl (px_wr (180 + (px_wr (3 * x1)))), .inr (.inr 171)]) (h1 := (px_G1, s)) rfl ?_
            by_cases hc7 : 0 ≤ (x3) ∧ (x3) < 140
            case neg => rw [if_neg hc7] at h; cases h
            rw [if_pos hc7] at h
            refine px_D_iald (k := 163) (n := 140) rfl rfl hc7 ?_
            by_cases hc8 : 0 ≤ (px_wr (180 + (px_wr (3 * x1)))) ∧ (px_wr (180 + (px_wr (3 * x1)))) < 360
            case neg => rw [if_neg hc8] at h; cases h
            rw [if_pos hc8] at h
            refine px_D_iast (k := 166) (n := 360) rfl rfl hc8 ?_
            refine px_D_st 8 (ip1 := 103) (ls1 := [(4, .inl (px_wr (180 + (px_wr (3 * x1))))), (0, .inr (.inr 150)), (1, .inl (x1)), (2, .inl (x2)), (3, .inl (x3))]) (st1 := [.inl (x3), .inr (.inr 169), .inl (px_wr ((px_wr (180 + (px_wr (3 * x1)))) + 1)), .inr (.inr 171)]) (h1 := (px_G1, px_up s 171 (px_wr (180 + (px_wr (3 * x1)))).toNat (s 168 x3.toNat))) rfl ?_
            by_cases hc9 : 0 ≤ (x3) ∧ (x3) < 140
            case neg => rw [if_neg hc9] at h; cases h
            rw [if_pos hc9] at h
            refine px_D_iald (k := 164) (n := 140) rfl rfl hc9 ?_
            by_cases hc10 : 0 ≤ (px_wr ((px_wr (180 + (px_wr (3 * x1)))) + 1)) ∧ (px_wr ((px_wr (180 + (px_wr (3 * x1)))) + 1)) < 360
            case neg => rw [if_neg hc10] at h; cases h
            rw [if_pos hc10] at h
            refine px_D_iast (k := 166) (n := 360) rfl rfl hc10 ?_
            refine px_D_st 8 (ip1 := 113) (ls1 := [(4, .inl (px_wr (180 + (px_wr (3 * x1))))), (0, .inr (.inr 150)), (1, .inl (x1)), (2, .inl (x2)), (3, .inl (x3))]) (st1 := [.inl (x3), .inr (.inr 170), .inl (px_wr ((px_wr (180 + (px_wr (3 * x1)))) + 2)), .inr (.inr 171)]) (h1 := (px_G1, px_up (px_up s 171 (px_wr (180 + (px_wr (3 * x1)))).toNat (s 168 x3.toNat)) 171 (px_wr ((px_wr (180 + (px_wr (3 * x1)))) + 1)).toNat ((px_up s 171 (px_wr (180 + (px_wr (3 * x1)))).toNat (s 168 x3.toNat)) 169 x3.toNat))) rfl ?_
            by_cases hc11 : 0 ≤ (x3) ∧ (x3) < 140
            case neg => rw [if_neg hc11] at h; cases h
            rw [if_pos hc11] at h
            refine px_D_iald (k := 165) (n := 140) rfl rfl hc11 ?_
            by_cases hc12 : 0 ≤ (px_wr ((px_wr (180 + (px_wr (3 * x1)))) + 2)) ∧ (px_wr ((px_wr (180 + (px_wr (3 * x1)))) + 2)) < 360
            case neg => rw [if_neg hc12] at h; cases h
            rw [if_pos hc12] at h
            refine px_D_iast (k := 166) (n := 360) rfl rfl hc12 ?_
            refine px_D_st 6 (ip1 := 6) (ls1 := [(3, .inl (px_wr (x3 + 1))), (1, .inl (px_wr (x1 + 1))), (4, .inl (px_wr (180 + (px_wr (3 * x1))))), (0, .inr (.inr 150)), (2, .inl (x2))]) (st1 := []) (h1 := (px_G1, px_up (px_up (px_up s 171 (px_wr (180 + (px_wr (3 * x1)))).toNat (s 168 x3.toNat)) 171 (px_wr ((px_wr (180 + (px_wr (3 * x1)))) + 1)).toNat ((px_up s 171 (px_wr (180 + (px_wr (3 * x1)))).toNat (s 168 x3.toNat)) 169 x3.toNat)) 171 (px_wr ((px_wr (180 + (px_wr (3 * x1)))) + 2)).toNat ((px_up (px_up s 171 (px_wr (180 + (px_wr (3 * x1)))).toNat (s 168 x3.toNat)) 171 (px_wr ((px_wr (180 + (px_wr (3 * x1)))) + 1)).toNat ((px_up s 171 (px_wr (180 + (px_wr (3 * x1)))).toNat (s 168 x3.toNat)) 169 x3.toNat)) 170 x3.toNat))) rfl ?_
            refine px_D_ls [(0, .inr (.inr 150)), (1, .inl (px_wr (x1 + 1))), (2, .inl (x2)), (3, .inl (px_wr (x3 + 1)))] rfl rfl (List.forall_mem_cons.mpr ⟨rfl, List.forall_mem_cons.mpr ⟨rfl, List.forall_mem_cons.mpr ⟨rfl, List.forall_mem_cons.mpr ⟨rfl, fun _ h => absurd h List.not_mem_nil⟩⟩⟩⟩) ?_
            exact ih _ _ _ _ _ h
          · have hc6 : (x1) = (60) := Decidable.of_not_not (of_decide_eq_false hc)
            rw [if_pos hc6] at h
            refine px_D_ls [(0, .inr (.inr 150))] rfl rfl (List.forall_mem_cons.mpr ⟨rfl, fun _ h => absurd h List.not_mem_nil⟩) ?_
            exact hk77 _ _ h
        · have hc5 : (s 168 x3.toNat) = (4) := Decidable.of_not_not (of_decide_eq_false hc)
          rw [if_pos hc5] at h
          refine px_D_st 10 (ip1 := 50) (ls1 := [(0, .inr (.inr 150)), (1, .inl (x1)), (2, .inl (x2)), (3, .inl (x3))]) (st1 := [.inl (px_wr (x2 - 1)), .inr (.inr 173), .inl (px_wr (x2 - 1)), .inr (.inr 173)]) (h1 := (px_G1, s)) rfl ?_
          by_cases hc13 : 0 ≤ (px_wr (x2 - 1)) ∧ (px_wr (x2 - 1)) < 4
          case neg => rw [if_neg hc13] at h; cases h
          rw [if_pos hc13] at h
          refine px_D_iald (k := 168) (n := 4) rfl rfl hc13 ?_
          refine px_D_st 2 (ip1 := 53) (ls1 := [(0, .inr (.inr 150)), (1, .inl (x1)), (2, .inl (x2)), (3, .inl (x3))]) (st1 := [.inl (px_wr ((s 173 (px_wr (x2 - 1)).toNat) - 1)), .inl (px_wr (x2 - 1)), .inr (.inr 173)]) (h1 := (px_G1, s)) rfl ?_
          by_cases hc14 : 0 ≤ (px_wr (x2 - 1)) ∧ (px_wr (x2 - 1)) < 4
          case neg => rw [if_neg hc14] at h; cases h
          rw [if_pos hc14] at h
          refine px_D_iast (k := 168) (n := 4) rfl rfl hc14 ?_
          refine px_D_st 5 (ip1 := 59) (ls1 := [(0, .inr (.inr 150)), (1, .inl (x1)), (2, .inl (x2)), (3, .inl (x3))]) (st1 := [.inl (px_wr (x2 - 1)), .inr (.inr 173)]) (h1 := (px_G1, px_up s 173 (px_wr (x2 - 1)).toNat (px_wr ((s 173 (px_wr (x2 - 1)).toNat) - 1)))) rfl ?_
          by_cases hc15 : 0 ≤ (px_wr (x2 - 1)) ∧ (px_wr (x2 - 1)) < 4
          case neg => rw [if_neg hc15] at h; cases h
          rw [if_pos hc15] at h
          refine px_D_iald (k := 168) (n := 4) rfl rfl hc15 ?_
          refine px_D_ifc rfl (fun hc => ?_) (fun hc => ?_)
          · have hc16 : ((px_up s 173 (px_wr (x2 - 1)).toNat (px_wr ((s 173 (px_wr (x2 - 1)).toNat) - 1))) 173 (px_wr (x2 - 1)).toNat) ≤ (0) := of_decide_eq_true hc
            rw [if_pos hc16] at h
            refine px_D_st 7 (ip1 := 6) (ls1 := [(3, .inl (px_wr (x3 + 1))), (2, .inl (px_wr (x2 - 1))), (0, .inr (.inr 150)), (1, .inl (x1))]) (st1 := []) (h1 := (px_G1, px_up s 173 (px_wr (x2 - 1)).toNat (px_wr ((s 173 (px_wr (x2 - 1)).toNat) - 1)))) rfl ?_
            refine px_D_ls [(0, .inr (.inr 150)), (1, .inl (x1)), (2, .inl (px_wr (x2 - 1))), (3, .inl (px_wr (x3 + 1)))] rfl rfl (List.forall_mem_cons.mpr ⟨rfl, List.forall_mem_cons.mpr ⟨rfl, List.forall_mem_cons.mpr ⟨rfl, List.forall_mem_cons.mpr ⟨rfl, fun _ h => absurd h List.not_mem_nil⟩⟩⟩⟩) ?_
            exact ih _ _ _ _ _ h
          · have hc16 : ¬ (((px_up s 173 (px_wr (x2 - 1)).toNat (px_wr ((s 173 (px_wr (x2 - 1)).toNat) - 1))) 173 (px_wr (x2 - 1)).toNat) ≤ (0)) := of_decide_eq_false hc
            rw [if_neg hc16] at h
            refine px_D_st 5 (ip1 := 66) (ls1 := [(0, .inr (.inr 150)), (1, .inl (x1)), (2, .inl (x2)), (3, .inl (x3))]) (st1 := [.inl (px_wr (x2 - 1)), .inr (.inr 172)]) (h1 := (px_G1, px_up s 173 (px_wr (x2 - 1)).toNat (px_wr ((s 173 (px_wr (x2 - 1)).toNat) - 1)))) rfl ?_
            by_cases hc17 : 0 ≤ (px_wr (x2 - 1)) ∧ (px_wr (x2 - 1)) < 4
            case neg => rw [if_neg hc17] at h; cases h
            rw [if_pos hc17] at h
            refine px_D_iald (k := 167) (n := 4) rfl rfl hc17 ?_
            refine px_D_st 4 (ip1 := 6) (ls1 := [(3, .inl (px_wr (((px_up s 173 (px_wr (x2 - 1)).toNat (px_wr ((s 173 (px_wr (x2 - 1)).toNat) - 1))) 172 (px_wr (x2 - 1)).toNat) + 1))), (0, .inr (.inr 150)), (1, .inl (x1)), (2, .inl (x2))]) (st1 := []) (h1 := (px_G1, px_up s 173 (px_wr (x2 - 1)).toNat (px_wr ((s 173 (px_wr (x2 - 1)).toNat) - 1)))) rfl ?_
            refine px_D_ls [(0, .inr (.inr 150)), (1, .inl (x1)), (2, .inl (x2)), (3, .inl (px_wr (((px_up s 173 (px_wr (x2 - 1)).toNat (px_wr ((s 173 (px_wr (x2 - 1)).toNat) - 1))) 172 (px_wr (x2 - 1)).toNat) + 1)))] rfl rfl (List.forall_mem_cons.mpr ⟨rfl, List.forall_mem_cons.mpr ⟨rfl, List.forall_mem_cons.mpr ⟨rfl, List.forall_mem_cons.mpr ⟨rfl, fun _ h => absurd h List.not_mem_nil⟩⟩⟩⟩) ?_
            exact ih _ _ _ _ _ h
      · have hc3 : (s 168 x3.toNat) = (3) := Decidable.of_not_not (of_decide_eq_false hc)
        rw [if_pos hc3] at h
        refine px_D_st 4 (ip1 := 20) (ls1 := [(0, .inr (.inr 150)), (1, .inl (x1)), (2, .inl (x2)), (3, .inl (x3))]) (st1 := [.inl (x3), .inl (x2), .inr (.inr 172)]) (h1 := (px_G1, s)) rfl ?_
        by_cases hc18 : 0 ≤ (x2) ∧ (x2) < 4
        case neg => rw [if_neg hc18] at h; cases h
        rw [if_pos hc18] at h
        refine px_D_iast (k := 167) (n := 4) rfl rfl hc18 ?_
        refine px_D_st 6 (ip1 := 27) (ls1 := [(0, .inr (.inr 150)), (1, .inl (x1)), (2, .inl (x2)), (3, .inl (x3))]) (st1 := [.inl (x3), .inr (.inr 169), .inl (x2), .inr (.inr 173)]) (h1 := (px_G1, px_up s 172 x2.toNat x3)) rfl ?_
        by_cases hc19 : 0 ≤ (x3) ∧ (x3) < 140
        case neg => rw [if_neg hc19] at h; cases h
        rw [if_pos hc19] at h
        refine px_D_iald (k := 164) (n := 140) rfl rfl hc19 ?_
        by_cases hc20 : 0 ≤ (x2) ∧ (x2) < 4
        case neg => rw [if_neg hc20] at h; cases h
        rw [if_pos hc20] at h
        refine px_D_iast (k := 168) (n := 4) rfl rfl hc20 ?_
        refine px_D_st 7 (ip1 := 6) (ls1 := [(3, .inl (px_wr (x3 + 1))), (2, .inl (px_wr (x2 + 1))), (0, .inr (.inr 150)), (1, .inl (x1))]) (st1 := []) (h1 := (px_G1, px_up (px_up s 172 x2.toNat x3) 173 x2.toNat ((px_up s 172 x2.toNat x3) 169 x3.toNat))) rfl ?_
        refine px_D_ls [(0, .inr (.inr 150)), (1, .inl (x1)), (2, .inl (px_wr (x2 + 1))), (3, .inl (px_wr (x3 + 1)))] rfl rfl (List.forall_mem_cons.mpr ⟨rfl, List.forall_mem_cons.mpr ⟨rfl, List.forall_mem_cons.mpr ⟨rfl, List.forall_mem_cons.mpr ⟨rfl, fun _ h => absurd h List.not_mem_nil⟩⟩⟩⟩) ?_
        exact ih _ _ _ _ _ h
def f_M_laysDeeds (s : px_Z) : Option (Int × px_Z) := l_M_laysDeeds_6 (fun s => (f_M_errs s 4).bind (fun q21 => some (q21.1, q21.2))) px_big s 0 0 0
set_option maxHeartbeats 4000000 in
set_option maxRecDepth 100000 in
theorem c_M_laysDeeds {sc : List Int} {d : Nat} {s : px_Z} {out : Int × px_Z} (h : f_M_laysDeeds s  = some out) : px_D sc (d + 1) 206 0 [(0, .inr (.inr 150))] [] (px_G1, s) (px_Qi out) := by
  unfold f_M_laysDeeds at h
  refine px_D_st 6 (ip1 := 6) (ls1 := [(3, .inl (0)), (2, .inl (0)), (1, .inl (0)), (0, .inr (.inr 150))]) (st1 := []) (h1 := (px_G1, s)) rfl ?_
  refine px_D_ls [(0, .inr (.inr 150)), (1, .inl (0)), (2, .inl (0)), (3, .inl (0))] rfl rfl (List.forall_mem_cons.mpr ⟨rfl, List.forall_mem_cons.mpr ⟨rfl, List.forall_mem_cons.mpr ⟨rfl, List.forall_mem_cons.mpr ⟨rfl, fun _ h => absurd h List.not_mem_nil⟩⟩⟩⟩) ?_
  refine cl_M_laysDeeds_6 ?_ px_big _ _ _ _ _ h
  · intro s out h
    refine px_D_st 2 (ip1 := 79) (ls1 := [(0, .inr (.inr 150))]) (st1 := [.inl (4), .inr (.inr 150)]) (h1 := (px_G1, s)) rfl ?_
    refine px_D_call (as := [.inr (.inr 150), .inl (4)]) (rest := []) rfl rfl rfl rfl ?_
    obtain ⟨q21, hq21, h⟩ := Option.bind_eq_some_iff.mp h
    refine px_D_mono (c_M_errs (d := d + 0) hq21) ?_
    rintro _ _ ⟨rfl, rfl⟩
    show px_D sc (d + 1) 206 80 [(0, .inr (.inr 150))] [.inl (q21.1)] (px_G1, q21.2) _
    cases h
    exact px_D_iret rfl rfl ⟨rfl, rfl⟩

def f_M_readPlan (s : px_Z) : Option (Int × px_Z) := (f_M_readSteps s ).bind (fun q1 => if (q1.1) = ((-1)) then some (((-1), q1.2)) else (f_M_laysDeeds q1.2 ).bind (fun q3 => some (q3.1, q3.2)))
set_option maxHeartbeats 4000000 in
set_option maxRecDepth 100000 in
theorem c_M_readPlan {sc : List Int} {d : Nat} {s : px_Z} {out : Int × px_Z} (h : f_M_readPlan s  = some out) : px_D sc (d + 7) 207 0 [(0, .inr (.inr 150))] [] (px_G1, s) (px_Qi out) := by
  unfold f_M_readPlan at h
  refine px_D_st 1 (ip1 := 1) (ls1 := [(0, .inr (.inr 150))]) (st1 := [.inr (.inr 150)]) (h1 := (px_G1, s)) rfl ?_
  refine px_D_call (as := [.inr (.inr 150)]) (rest := []) rfl rfl rfl rfl ?_
  obtain ⟨q1, hq1, h⟩ := Option.bind_eq_some_iff.mp h
  refine px_D_mono (c_M_readSteps (d := d + 0) hq1) ?_
  rintro _ _ ⟨rfl, rfl⟩
  show px_D sc (d + 7) 207 2 [(0, .inr (.inr 150))] [.inl (q1.1)] (px_G1, q1.2) _
  refine px_D_st 1 (ip1 := 3) (ls1 := [(0, .inr (.inr 150))]) (st1 := [.inl ((-1)), .inl (q1.1)]) (h1 := (px_G1, q1.2)) rfl ?_
  refine px_D_icmp rfl (fun hc => ?_) (fun hc => ?_)
  · have hc2 : ¬ ((q1.1) = ((-1))) := of_decide_eq_true hc
    rw [if_neg hc2] at h
    refine px_D_st 1 (ip1 := 7) (ls1 := [(0, .inr (.inr 150))]) (st1 := [.inr (.inr 150)]) (h1 := (px_G1, q1.2)) rfl ?_
    refine px_D_call (as := [.inr (.inr 150)]) (rest := []) rfl rfl rfl rfl ?_
    obtain ⟨q3, hq3, h⟩ := Option.bind_eq_some_iff.mp h
    refine px_D_mono (c_M_laysDeeds (d := d + 5) hq3) ?_
    rintro _ _ ⟨rfl, rfl⟩
    show px_D sc (d + 7) 207 8 [(0, .inr (.inr 150))] [.inl (q3.1)] (px_G1, q3.2) _
    cases h
    exact px_D_iret rfl rfl ⟨rfl, rfl⟩
  · have hc2 : (q1.1) = ((-1)) := Decidable.of_not_not (of_decide_eq_false hc)
    rw [if_pos hc2] at h
    refine px_D_st 2 (ip1 := 8) (ls1 := [(0, .inr (.inr 150))]) (st1 := [.inl ((-1))]) (h1 := (px_G1, q1.2)) rfl ?_
    cases h
    exact px_D_iret rfl rfl ⟨rfl, rfl⟩

def f_M_readsText (s : px_Z) (x1 : Int) : Option (Int × px_Z) := (f_M_reads (px_up s 150 26 x1) ).bind (fun q1 => if (x1) = (2) then (f_M_readHills q1 ).bind (fun q8 => some (q8.1, q8.2)) else (if (x1) = (3) then (f_M_readAfter q1 ).bind (fun q7 => some (q7.1, q7.2)) else (if (x1) = (4) then (f_M_readPlan q1 ).bind (fun q6 => some (q6.1, q6.2)) else (f_M_readLaw q1 ).bind (fun q5 => some (q5.1, q5.2)))))
set_option maxHeartbeats 4000000 in
set_option maxRecDepth 100000 in
theorem c_M_readsText {sc : List Int} {d : Nat} {s : px_Z} {x1 : Int} {out : Int × px_Z} (h : f_M_readsText s x1 = some out) : px_D sc (d + 9) 208 0 [(0, .inr (.inr 150)), (1, .inl (x1))] [] (px_G1, s) (px_Qi out) := by
  unfold f_M_readsText at h
  refine px_D_st 4 (ip1 := 4) (ls1 := [(0, .inr (.inr 150)), (1, .inl (x1))]) (st1 := [.inr (.inr 150)]) (h1 := (px_G1, px_up s 150 26 x1)) rfl ?_
  refine px_D_call (as := [.inr (.inr 150)]) (rest := []) rfl rfl rfl rfl ?_
  obtain ⟨q1, hq1, h⟩ := Option.bind_eq_some_iff.mp h
  refine px_D_mono (c_M_reads (d := d + 6) hq1) ?_
  rintro _ _ ⟨rfl, rfl⟩
  show px_D sc (d + 9) 208 5 [(0, .inr (.inr 150)), (1, .inl (x1))] [] (px_G1, q1) _
  refine px_D_st 2 (ip1 := 7) (ls1 := [(0, .inr (.inr 150)), (1, .inl (x1))]) (st1 := [.inl (2), .inl (x1)]) (h1 := (px_G1, q1)) rfl ?_
  refine px_D_icmp rfl (fun hc => ?_) (fun hc => ?_)
  · have hc2 : ¬ ((x1) = (2)) := of_decide_eq_true hc
    rw [if_neg hc2] at h
    refine px_D_st 2 (ip1 := 13) (ls1 := [(0, .inr (.inr 150)), (1, .inl (x1))]) (st1 := [.inl (3), .inl (x1)]) (h1 := (px_G1, q1)) rfl ?_
    refine px_D_icmp rfl (fun hc => ?_) (fun hc => ?_)
    · have hc3 : ¬ ((x1) = (3)) := of_decide_eq_true hc
      rw [if_neg hc3] at h
      refine px_D_st 2 (ip1 := 19) (ls1 := [(0, .inr (.inr 150)), (1, .inl (x1))]) (st1 := [.inl (4), .inl (x1)]) (h1 := (px_G1, q1)) rfl ?_
      refine px_D_icmp rfl (fun hc => ?_) (fun hc => ?_)
      · have hc4 : ¬ ((x1) = (4)) := of_decide_eq_true hc
        rw [if_neg hc4] at h
        refine px_D_st 1 (ip1 := 24) (ls1 := [(0, .inr (.inr 150)), (1, .inl (x1))]) (st1 := [.inr (.inr 150)]) (h1 := (px_G1, q1)) rfl ?_
        refine px_D_call (as := [.inr (.inr 150)]) (rest := []) rfl rfl rfl rfl ?_
        obtain ⟨q5, hq5, h⟩ := Option.bind_eq_some_iff.mp h
        refine px_D_mono (c_M_readLaw (d := d + 0) hq5) ?_
        rintro _ _ ⟨rfl, rfl⟩
        show px_D sc (d + 9) 208 25 [(0, .inr (.inr 150)), (1, .inl (x1))] [.inl (q5.1)] (px_G1, q5.2) _
        cases h
        exact px_D_iret rfl rfl ⟨rfl, rfl⟩
      · have hc4 : (x1) = (4) := Decidable.of_not_not (of_decide_eq_false hc)
        rw [if_pos hc4] at h
        refine px_D_st 1 (ip1 := 21) (ls1 := [(0, .inr (.inr 150)), (1, .inl (x1))]) (st1 := [.inr (.inr 150)]) (h1 := (px_G1, q1)) rfl ?_
        refine px_D_call (as := [.inr (.inr 150)]) (rest := []) rfl rfl rfl rfl ?_
        obtain ⟨q6, hq6, h⟩ := Option.bind_eq_some_iff.mp h
        refine px_D_mono (c_M_readPlan (d := d + 1) hq6) ?_
        rintro _ _ ⟨rfl, rfl⟩
        show px_D sc (d + 9) 208 22 [(0, .inr (.inr 150)), (1, .inl (x1))] [.inl (q6.1)] (px_G1, q6.2) _
        refine px_D_st 1 (ip1 := 25) (ls1 := [(0, .inr (.inr 150)), (1, .inl (x1))]) (st1 := [.inl (q6.1)]) (h1 := (px_G1, q6.2)) rfl ?_
        cases h
        exact px_D_iret rfl rfl ⟨rfl, rfl⟩
    · have hc3 : (x1) = (3) := Decidable.of_not_not (of_decide_eq_false hc)
      rw [if_pos hc3] at h
      refine px_D_st 1 (ip1 := 15) (ls1 := [(0, .inr (.inr 150)), (1, .inl (x1))]) (st1 := [.inr (.inr 150)]) (h1 := (px_G1, q1)) rfl ?_
      refine px_D_call (as := [.inr (.inr 150)]) (rest := []) rfl rfl rfl rfl ?_
      obtain ⟨q7, hq7, h⟩ := Option.bind_eq_some_iff.mp h
      refine px_D_mono (c_M_readAfter (d := d + 3) hq7) ?_
      rintro _ _ ⟨rfl, rfl⟩
      show px_D sc (d + 9) 208 16 [(0, .inr (.inr 150)), (1, .inl (x1))] [.inl (q7.1)] (px_G1, q7.2) _
      cases h
      exact px_D_iret rfl rfl ⟨rfl, rfl⟩
  · have hc2 : (x1) = (2) := Decidable.of_not_not (of_decide_eq_false hc)
    rw [if_pos hc2] at h
    refine px_D_st 1 (ip1 := 9) (ls1 := [(0, .inr (.inr 150)), (1, .inl (x1))]) (st1 := [.inr (.inr 150)]) (h1 := (px_G1, q1)) rfl ?_
    refine px_D_call (as := [.inr (.inr 150)]) (rest := []) rfl rfl rfl rfl ?_
    obtain ⟨q8, hq8, h⟩ := Option.bind_eq_some_iff.mp h
    refine px_D_mono (c_M_readHills (d := d + 2) hq8) ?_
    rintro _ _ ⟨rfl, rfl⟩
    show px_D sc (d + 9) 208 10 [(0, .inr (.inr 150)), (1, .inl (x1))] [.inl (q8.1)] (px_G1, q8.2) _
    cases h
    exact px_D_iret rfl rfl ⟨rfl, rfl⟩

def l_M_takesOther_53 (k70 : px_Z → Int → Option (px_Z)) : Nat → px_Z → Int → Int → Option (px_Z)
  | 0, _, _, _ => none
  | n + 1, s, x2, x3 => if (px_wr (3 * x2)) ≤ (x3) then k70 s x2 else (if 0 ≤ (px_wr (180 + x3)) ∧ (px_wr (180 + x3)) < 360 then if 0 ≤ (x3) ∧ (x3) < 360 then l_M_takesOther_53 k70 n (px_up s 171 x3.toNat (s 171 (px_wr (180 + x3)).toNat)) x2 (px_wr (x3 + 1)) else none else none)
set_option maxHeartbeats 4000000 in
set_option maxRecDepth 100000 in
theorem cl_M_takesOther_53 {sc : List Int} {d : Nat} {k70 : px_Z → Int → Option (px_Z)}  (hk70 : ∀ (s : px_Z) (y2 : Int) (out : px_Z), k70 s y2 = some out → px_D sc (d + 0) 209 70 [(0, .inr (.inr 150)), (2, .inl (y2))] [] (px_G1, s) (px_Qv out)) : ∀ (n : Nat) (s : px_Z) (x2 : Int) (x3 : Int) (out : px_Z), l_M_takesOther_53 k70 n s x2 x3 = some out → px_D sc (d + 0) 209 53 [(0, .inr (.inr 150)), (2, .inl (x2)), (3, .inl (x3))] [] (px_G1, s) (px_Qv out) := by
  intro n
  induction n with
  | zero => intro s x2 x3 out h; cases h
  | succ n ih =>
    intro s x2 x3 out h
    rw [l_M_takesOther_53] at h
    refine px_D_st 4 (ip1 := 57) (ls1 := [(0, .inr (.inr 150)), (2, .inl (x2)), (3, .inl (x3))]) (st1 := [.inl (px_wr (3 * x2)), .inl (x3)]) (h1 := (px_G1, s)) rfl ?_
    refine px_D_icmp rfl (fun hc => ?_) (fun hc => ?_)
    · have hc4 : (px_wr (3 * x2)) ≤ (x3) := of_decide_eq_true hc
      rw [if_pos hc4] at h
      refine px_D_ls [(0, .inr (.inr 150)), (2, .inl (x2))] rfl rfl (List.forall_mem_cons.mpr ⟨rfl, List.forall_mem_cons.mpr ⟨rfl, fun _ h => absurd h List.not_mem_nil⟩⟩) ?_
      exact hk70 _ _ _ h
    · have hc4 : ¬ ((px_wr (3 * x2)) ≤ (x3)) := of_decide_eq_false hc
      rw [if_neg hc4] at h
      refine px_D_st 8 (ip1 := 66) (ls1 := [(0, .inr (.inr 150)), (2, .inl (x2)), (3, .inl (x3))]) (st1 := [.inl (px_wr (180 + x3)), .inr (.inr 171), .inl (x3), .inr (.inr 171)]) (h1 := (px_G1, s)) rfl ?_
      by_cases hc5 : 0 ≤ (px_wr (180 + x3)) ∧ (px_wr (180 + x3)) < 360
      case neg => rw [if_neg hc5] at h; cases h
      rw [if_pos hc5] at h
      refine px_D_iald (k := 166) (n := 360) rfl rfl hc5 ?_
      by_cases hc6 : 0 ≤ (x3) ∧ (x3) < 360
      case neg => rw [if_neg hc6] at h; cases h
      rw [if_pos hc6] at h
      refine px_D_iast (k := 166) (n := 360) rfl rfl hc6 ?_
      refine px_D_st 2 (ip1 := 53) (ls1 := [(3, .inl (px_wr (x3 + 1))), (0, .inr (.inr 150)), (2, .inl (x2))]) (st1 := []) (h1 := (px_G1, px_up s 171 x3.toNat (s 171 (px_wr (180 + x3)).toNat))) rfl ?_
      refine px_D_ls [(0, .inr (.inr 150)), (2, .inl (x2)), (3, .inl (px_wr (x3 + 1)))] rfl rfl (List.forall_mem_cons.mpr ⟨rfl, List.forall_mem_cons.mpr ⟨rfl, List.forall_mem_cons.mpr ⟨rfl, fun _ h => absurd h List.not_mem_nil⟩⟩⟩) ?_
      exact ih _ _ _ _ h
def j_M_takesOther_j48 (s : px_Z) (x1 : Int) (x2 : Int) : Option (px_Z) := if (x1) = (4) then l_M_takesOther_53 (fun s x2 => some (px_up (px_up s 150 43 x2) 150 3 0)) px_big s x2 0 else some (px_up s 150 3 0)
set_option maxHeartbeats 4000000 in
set_option maxRecDepth 100000 in
theorem cj_M_takesOther_j48 {sc : List Int} {d : Nat} {s : px_Z} {x1 : Int} {x2 : Int} {out : px_Z} (h : j_M_takesOther_j48 s x1 x2 = some out) : px_D sc (d + 0) 209 48 [(0, .inr (.inr 150)), (1, .inl (x1)), (2, .inl (x2))] [] (px_G1, s) (px_Qv out) := by
  unfold j_M_takesOther_j48 at h
  refine px_D_st 2 (ip1 := 50) (ls1 := [(0, .inr (.inr 150)), (1, .inl (x1)), (2, .inl (x2))]) (st1 := [.inl (4), .inl (x1)]) (h1 := (px_G1, s)) rfl ?_
  refine px_D_icmp rfl (fun hc => ?_) (fun hc => ?_)
  · have hc3 : ¬ ((x1) = (4)) := of_decide_eq_true hc
    rw [if_neg hc3] at h
    refine px_D_st 3 (ip1 := 76) (ls1 := [(0, .inr (.inr 150)), (1, .inl (x1)), (2, .inl (x2))]) (st1 := []) (h1 := (px_G1, px_up s 150 3 0)) rfl ?_
    cases h
    exact px_D_vret rfl ⟨rfl, rfl⟩
  · have hc3 : (x1) = (4) := Decidable.of_not_not (of_decide_eq_false hc)
    rw [if_pos hc3] at h
    refine px_D_st 2 (ip1 := 53) (ls1 := [(3, .inl (0)), (0, .inr (.inr 150)), (1, .inl (x1)), (2, .inl (x2))]) (st1 := []) (h1 := (px_G1, s)) rfl ?_
    refine px_D_ls [(0, .inr (.inr 150)), (2, .inl (x2)), (3, .inl (0))] rfl rfl (List.forall_mem_cons.mpr ⟨rfl, List.forall_mem_cons.mpr ⟨rfl, List.forall_mem_cons.mpr ⟨rfl, fun _ h => absurd h List.not_mem_nil⟩⟩⟩) ?_
    refine cl_M_takesOther_53 ?_ px_big _ _ _ _ h
    · intro s x2 out h
      refine px_D_st 6 (ip1 := 76) (ls1 := [(0, .inr (.inr 150)), (2, .inl (x2))]) (st1 := []) (h1 := (px_G1, px_up (px_up s 150 43 x2) 150 3 0)) rfl ?_
      cases h
      exact px_D_vret rfl ⟨rfl, rfl⟩
def l_M_takesOther_30 (k45 : px_Z → Int → Int → Option (px_Z)) : Nat → px_Z → Int → Int → Int → Option (px_Z)
  | 0, _, _, _, _ => none
  | n + 1, s, x1, x2, x3 => if (8) ≤ (x3) then k45 s x1 x2 else (if 0 ≤ (px_wr (8 + x3)) ∧ (px_wr (8 + x3)) < 16 then if 0 ≤ (x3) ∧ (x3) < 16 then l_M_takesOther_30 k45 n (px_up s 167 x3.toNat (s 167 (px_wr (8 + x3)).toNat)) x1 x2 (px_wr (x3 + 1)) else none else none)
set_option maxHeartbeats 4000000 in
set_option maxRecDepth 100000 in
theorem cl_M_takesOther_30 {sc : List Int} {d : Nat} {k45 : px_Z → Int → Int → Option (px_Z)}  (hk45 : ∀ (s : px_Z) (y1 : Int) (y2 : Int) (out : px_Z), k45 s y1 y2 = some out → px_D sc (d + 0) 209 45 [(0, .inr (.inr 150)), (1, .inl (y1)), (2, .inl (y2))] [] (px_G1, s) (px_Qv out)) : ∀ (n : Nat) (s : px_Z) (x1 : Int) (x2 : Int) (x3 : Int) (out : px_Z), l_M_takesOther_30 k45 n s x1 x2 x3 = some out → px_D sc (d + 0) 209 30 [(0, .inr (.inr 150)), (1, .inl (x1)), (2, .inl (x2)), (3, .inl (x3))] [] (px_G1, s) (px_Qv out) := by
  intro n
  induction n with
  | zero => intro s x1 x2 x3 out h; cases h
  | succ n ih =>
    intro s x1 x2 x3 out h
    rw [l_M_takesOther_30] at h
    refine px_D_st 2 (ip1 := 32) (ls1 := [(0, .inr (.inr 150)), (1, .inl (x1)), (2, .inl (x2)), (3, .inl (x3))]) (st1 := [.inl (8), .inl (x3)]) (h1 := (px_G1, s)) rfl ?_
    refine px_D_icmp rfl (fun hc => ?_) (fun hc => ?_)
    · have hc7 : (8) ≤ (x3) := of_decide_eq_true hc
      rw [if_pos hc7] at h
      refine px_D_ls [(0, .inr (.inr 150)), (1, .inl (x1)), (2, .inl (x2))] rfl rfl (List.forall_mem_cons.mpr ⟨rfl, List.forall_mem_cons.mpr ⟨rfl, List.forall_mem_cons.mpr ⟨rfl, fun _ h => absurd h List.not_mem_nil⟩⟩⟩) ?_
      exact hk45 _ _ _ _ h
    · have hc7 : ¬ ((8) ≤ (x3)) := of_decide_eq_false hc
      rw [if_neg hc7] at h
      refine px_D_st 8 (ip1 := 41) (ls1 := [(0, .inr (.inr 150)), (1, .inl (x1)), (2, .inl (x2)), (3, .inl (x3))]) (st1 := [.inl (px_wr (8 + x3)), .inr (.inr 167), .inl (x3), .inr (.inr 167)]) (h1 := (px_G1, s)) rfl ?_
      by_cases hc8 : 0 ≤ (px_wr (8 + x3)) ∧ (px_wr (8 + x3)) < 16
      case neg => rw [if_neg hc8] at h; cases h
      rw [if_pos hc8] at h
      refine px_D_iald (k := 162) (n := 16) rfl rfl hc8 ?_
      by_cases hc9 : 0 ≤ (x3) ∧ (x3) < 16
      case neg => rw [if_neg hc9] at h; cases h
      rw [if_pos hc9] at h
      refine px_D_iast (k := 162) (n := 16) rfl rfl hc9 ?_
      refine px_D_st 2 (ip1 := 30) (ls1 := [(3, .inl (px_wr (x3 + 1))), (0, .inr (.inr 150)), (1, .inl (x1)), (2, .inl (x2))]) (st1 := []) (h1 := (px_G1, px_up s 167 x3.toNat (s 167 (px_wr (8 + x3)).toNat))) rfl ?_
      refine px_D_ls [(0, .inr (.inr 150)), (1, .inl (x1)), (2, .inl (x2)), (3, .inl (px_wr (x3 + 1)))] rfl rfl (List.forall_mem_cons.mpr ⟨rfl, List.forall_mem_cons.mpr ⟨rfl, List.forall_mem_cons.mpr ⟨rfl, List.forall_mem_cons.mpr ⟨rfl, fun _ h => absurd h List.not_mem_nil⟩⟩⟩⟩) ?_
      exact ih _ _ _ _ _ h
def j_M_takesOther_j25 (s : px_Z) (x1 : Int) (x2 : Int) : Option (px_Z) := if (x1) = (3) then l_M_takesOther_30 (fun s x1 x2 => j_M_takesOther_j48 (px_up s 150 37 x2) x1 x2) px_big s x1 x2 0 else j_M_takesOther_j48 s x1 x2
set_option maxHeartbeats 4000000 in
set_option maxRecDepth 100000 in
theorem cj_M_takesOther_j25 {sc : List Int} {d : Nat} {s : px_Z} {x1 : Int} {x2 : Int} {out : px_Z} (h : j_M_takesOther_j25 s x1 x2 = some out) : px_D sc (d + 0) 209 25 [(0, .inr (.inr 150)), (1, .inl (x1)), (2, .inl (x2))] [] (px_G1, s) (px_Qv out) := by
  unfold j_M_takesOther_j25 at h
  refine px_D_st 2 (ip1 := 27) (ls1 := [(0, .inr (.inr 150)), (1, .inl (x1)), (2, .inl (x2))]) (st1 := [.inl (3), .inl (x1)]) (h1 := (px_G1, s)) rfl ?_
  refine px_D_icmp rfl (fun hc => ?_) (fun hc => ?_)
  · have hc2 : ¬ ((x1) = (3)) := of_decide_eq_true hc
    rw [if_neg hc2] at h
    refine px_D_ls [(0, .inr (.inr 150)), (1, .inl (x1)), (2, .inl (x2))] rfl rfl (List.forall_mem_cons.mpr ⟨rfl, List.forall_mem_cons.mpr ⟨rfl, List.forall_mem_cons.mpr ⟨rfl, fun _ h => absurd h List.not_mem_nil⟩⟩⟩) ?_
    exact cj_M_takesOther_j48 h
  · have hc2 : (x1) = (3) := Decidable.of_not_not (of_decide_eq_false hc)
    rw [if_pos hc2] at h
    refine px_D_st 2 (ip1 := 30) (ls1 := [(3, .inl (0)), (0, .inr (.inr 150)), (1, .inl (x1)), (2, .inl (x2))]) (st1 := []) (h1 := (px_G1, s)) rfl ?_
    refine px_D_ls [(0, .inr (.inr 150)), (1, .inl (x1)), (2, .inl (x2)), (3, .inl (0))] rfl rfl (List.forall_mem_cons.mpr ⟨rfl, List.forall_mem_cons.mpr ⟨rfl, List.forall_mem_cons.mpr ⟨rfl, List.forall_mem_cons.mpr ⟨rfl, fun _ h => absurd h List.not_mem_nil⟩⟩⟩⟩) ?_
    refine cl_M_takesOther_30 ?_ px_big _ _ _ _ _ h
    · intro s x1 x2 out h
      refine px_D_st 3 (ip1 := 48) (ls1 := [(0, .inr (.inr 150)), (1, .inl (x1)), (2, .inl (x2))]) (st1 := []) (h1 := (px_G1, px_up s 150 37 x2)) rfl ?_
      refine px_D_ls [(0, .inr (.inr 150)), (1, .inl (x1)), (2, .inl (x2))] rfl rfl (List.forall_mem_cons.mpr ⟨rfl, List.forall_mem_cons.mpr ⟨rfl, List.forall_mem_cons.mpr ⟨rfl, fun _ h => absurd h List.not_mem_nil⟩⟩⟩) ?_
      exact cj_M_takesOther_j48 h
def l_M_takesOther_5 (k22 : px_Z → Int → Int → Option (px_Z)) : Nat → px_Z → Int → Int → Int → Option (px_Z)
  | 0, _, _, _, _ => none
  | n + 1, s, x1, x2, x3 => if (px_wr (5 * x2)) ≤ (x3) then k22 s x1 x2 else (if 0 ≤ (px_wr (120 + x3)) ∧ (px_wr (120 + x3)) < 240 then if 0 ≤ (x3) ∧ (x3) < 240 then l_M_takesOther_5 k22 n (px_up s 166 x3.toNat (s 166 (px_wr (120 + x3)).toNat)) x1 x2 (px_wr (x3 + 1)) else none else none)
set_option maxHeartbeats 4000000 in
set_option maxRecDepth 100000 in
theorem cl_M_takesOther_5 {sc : List Int} {d : Nat} {k22 : px_Z → Int → Int → Option (px_Z)}  (hk22 : ∀ (s : px_Z) (y1 : Int) (y2 : Int) (out : px_Z), k22 s y1 y2 = some out → px_D sc (d + 0) 209 22 [(0, .inr (.inr 150)), (1, .inl (y1)), (2, .inl (y2))] [] (px_G1, s) (px_Qv out)) : ∀ (n : Nat) (s : px_Z) (x1 : Int) (x2 : Int) (x3 : Int) (out : px_Z), l_M_takesOther_5 k22 n s x1 x2 x3 = some out → px_D sc (d + 0) 209 5 [(0, .inr (.inr 150)), (1, .inl (x1)), (2, .inl (x2)), (3, .inl (x3))] [] (px_G1, s) (px_Qv out) := by
  intro n
  induction n with
  | zero => intro s x1 x2 x3 out h; cases h
  | succ n ih =>
    intro s x1 x2 x3 out h
    rw [l_M_takesOther_5] at h
    refine px_D_st 4 (ip1 := 9) (ls1 := [(0, .inr (.inr 150)), (1, .inl (x1)), (2, .inl (x2)), (3, .inl (x3))]) (st1 := [.inl (px_wr (5 * x2)), .inl (x3)]) (h1 := (px_G1, s)) rfl ?_
    refine px_D_icmp rfl (fun hc => ?_) (fun hc => ?_)
    · have hc10 : (px_wr (5 * x2)) ≤ (x3) := of_decide_eq_true hc
      rw [if_pos hc10] at h
      refine px_D_ls [(0, .inr (.inr 150)), (1, .inl (x1)), (2, .inl (x2))] rfl rfl (List.forall_mem_cons.mpr ⟨rfl, List.forall_mem_cons.mpr ⟨rfl, List.forall_mem_cons.mpr ⟨rfl, fun _ h => absurd h List.not_mem_nil⟩⟩⟩) ?_
      exact hk22 _ _ _ _ h
    · have hc10 : ¬ ((px_wr (5 * x2)) ≤ (x3)) := of_decide_eq_false hc
      rw [if_neg hc10] at h
      refine px_D_st 8 (ip1 := 18) (ls1 := [(0, .inr (.inr 150)), (1, .inl (x1)), (2, .inl (x2)), (3, .inl (x3))]) (st1 := [.inl (px_wr (120 + x3)), .inr (.inr 166), .inl (x3), .inr (.inr 166)]) (h1 := (px_G1, s)) rfl ?_
      by_cases hc11 : 0 ≤ (px_wr (120 + x3)) ∧ (px_wr (120 + x3)) < 240
      case neg => rw [if_neg hc11] at h; cases h
      rw [if_pos hc11] at h
      refine px_D_iald (k := 161) (n := 240) rfl rfl hc11 ?_
      by_cases hc12 : 0 ≤ (x3) ∧ (x3) < 240
      case neg => rw [if_neg hc12] at h; cases h
      rw [if_pos hc12] at h
      refine px_D_iast (k := 161) (n := 240) rfl rfl hc12 ?_
      refine px_D_st 2 (ip1 := 5) (ls1 := [(3, .inl (px_wr (x3 + 1))), (0, .inr (.inr 150)), (1, .inl (x1)), (2, .inl (x2))]) (st1 := []) (h1 := (px_G1, px_up s 166 x3.toNat (s 166 (px_wr (120 + x3)).toNat))) rfl ?_
      refine px_D_ls [(0, .inr (.inr 150)), (1, .inl (x1)), (2, .inl (x2)), (3, .inl (px_wr (x3 + 1)))] rfl rfl (List.forall_mem_cons.mpr ⟨rfl, List.forall_mem_cons.mpr ⟨rfl, List.forall_mem_cons.mpr ⟨rfl, List.forall_mem_cons.mpr ⟨rfl, fun _ h => absurd h List.not_mem_nil⟩⟩⟩⟩) ?_
      exact ih _ _ _ _ _ h
def f_M_takesOther (s : px_Z) (x1 : Int) (x2 : Int) : Option (px_Z) := if (x1) = (2) then l_M_takesOther_5 (fun s x1 x2 => j_M_takesOther_j25 (px_up s 150 35 x2) x1 x2) px_big s x1 x2 0 else j_M_takesOther_j25 s x1 x2
set_option maxHeartbeats 4000000 in
set_option maxRecDepth 100000 in
theorem c_M_takesOther {sc : List Int} {d : Nat} {s : px_Z} {x1 : Int} {x2 : Int} {out : px_Z} (h : f_M_takesOther s x1 x2 = some out) : px_D sc (d + 0) 209 0 [(0, .inr (.inr 150)), (1, .inl (x1)), (2, .inl (x2))] [] (px_G1, s) (px_Qv out) := by
  unfold f_M_takesOther at h
  refine px_D_st 2 (ip1 := 2) (ls1 := [(0, .inr (.inr 150)), (1, .inl (x1)), (2, .inl (x2))]) (st1 := [.inl (2), .inl (x1)]) (h1 := (px_G1, s)) rfl ?_
  refine px_D_icmp rfl (fun hc => ?_) (fun hc => ?_)
  · have hc1 : ¬ ((x1) = (2)) := of_decide_eq_true hc
    rw [if_neg hc1] at h
    refine px_D_ls [(0, .inr (.inr 150)), (1, .inl (x1)), (2, .inl (x2))] rfl rfl (List.forall_mem_cons.mpr ⟨rfl, List.forall_mem_cons.mpr ⟨rfl, List.forall_mem_cons.mpr ⟨rfl, fun _ h => absurd h List.not_mem_nil⟩⟩⟩) ?_
    exact cj_M_takesOther_j25 h
  · have hc1 : (x1) = (2) := Decidable.of_not_not (of_decide_eq_false hc)
    rw [if_pos hc1] at h
    refine px_D_st 2 (ip1 := 5) (ls1 := [(3, .inl (0)), (0, .inr (.inr 150)), (1, .inl (x1)), (2, .inl (x2))]) (st1 := []) (h1 := (px_G1, s)) rfl ?_
    refine px_D_ls [(0, .inr (.inr 150)), (1, .inl (x1)), (2, .inl (x2)), (3, .inl (0))] rfl rfl (List.forall_mem_cons.mpr ⟨rfl, List.forall_mem_cons.mpr ⟨rfl, List.forall_mem_cons.mpr ⟨rfl, List.forall_mem_cons.mpr ⟨rfl, fun _ h => absurd h List.not_mem_nil⟩⟩⟩⟩) ?_
    refine cl_M_takesOther_5 ?_ px_big _ _ _ _ _ h
    · intro s x1 x2 out h
      refine px_D_st 3 (ip1 := 25) (ls1 := [(0, .inr (.inr 150)), (1, .inl (x1)), (2, .inl (x2))]) (st1 := []) (h1 := (px_G1, px_up s 150 35 x2)) rfl ?_
      refine px_D_ls [(0, .inr (.inr 150)), (1, .inl (x1)), (2, .inl (x2))] rfl rfl (List.forall_mem_cons.mpr ⟨rfl, List.forall_mem_cons.mpr ⟨rfl, List.forall_mem_cons.mpr ⟨rfl, fun _ h => absurd h List.not_mem_nil⟩⟩⟩) ?_
      exact cj_M_takesOther_j25 h

def j_M_text_j41 (s : px_Z) (x1 : Int) (x2 : Int) : Option (Int × px_Z) := if (x2) = ((-1)) then some (((-1), px_up s 150 13 0)) else (if (1) < (x1) then (f_M_takesOther (px_up s 150 13 0) x1 x2).bind (fun q4 => some (x2, q4)) else (f_M_takesLaw (px_up s 150 13 0) x2).bind (fun q5 => some (x2, q5)))
set_option maxHeartbeats 4000000 in
set_option maxRecDepth 100000 in
theorem cj_M_text_j41 {sc : List Int} {d : Nat} {s : px_Z} {x1 : Int} {x2 : Int} {out : Int × px_Z} (h : j_M_text_j41 s x1 x2 = some out) : px_D sc (d + 10) 210 41 [(0, .inr (.inr 150)), (1, .inl (x1)), (2, .inl (x2))] [] (px_G1, s) (px_Qi out) := by
  unfold j_M_text_j41 at h
  refine px_D_st 5 (ip1 := 46) (ls1 := [(0, .inr (.inr 150)), (1, .inl (x1)), (2, .inl (x2))]) (st1 := [.inl ((-1)), .inl (x2)]) (h1 := (px_G1, px_up s 150 13 0)) rfl ?_
  refine px_D_icmp rfl (fun hc => ?_) (fun hc => ?_)
  · have hc2 : ¬ ((x2) = ((-1))) := of_decide_eq_true hc
    rw [if_neg hc2] at h
    refine px_D_st 2 (ip1 := 51) (ls1 := [(0, .inr (.inr 150)), (1, .inl (x1)), (2, .inl (x2))]) (st1 := [.inl (1), .inl (x1)]) (h1 := (px_G1, px_up s 150 13 0)) rfl ?_
    refine px_D_icmp rfl (fun hc => ?_) (fun hc => ?_)
    · have hc3 : (1) < (x1) := of_decide_eq_true hc
      rw [if_pos hc3] at h
      refine px_D_st 3 (ip1 := 59) (ls1 := [(0, .inr (.inr 150)), (1, .inl (x1)), (2, .inl (x2))]) (st1 := [.inl (x2), .inl (x1), .inr (.inr 150)]) (h1 := (px_G1, px_up s 150 13 0)) rfl ?_
      refine px_D_call (as := [.inr (.inr 150), .inl (x1), .inl (x2)]) (rest := []) rfl rfl rfl rfl ?_
      obtain ⟨q4, hq4, h⟩ := Option.bind_eq_some_iff.mp h
      refine px_D_mono (c_M_takesOther (d := d + 9) hq4) ?_
      rintro _ _ ⟨rfl, rfl⟩
      show px_D sc (d + 10) 210 60 [(0, .inr (.inr 150)), (1, .inl (x1)), (2, .inl (x2))] [] (px_G1, q4) _
      refine px_D_st 1 (ip1 := 61) (ls1 := [(0, .inr (.inr 150)), (1, .inl (x1)), (2, .inl (x2))]) (st1 := [.inl (x2)]) (h1 := (px_G1, q4)) rfl ?_
      cases h
      exact px_D_iret rfl rfl ⟨rfl, rfl⟩
    · have hc3 : ¬ ((1) < (x1)) := of_decide_eq_false hc
      rw [if_neg hc3] at h
      refine px_D_st 2 (ip1 := 54) (ls1 := [(0, .inr (.inr 150)), (1, .inl (x1)), (2, .inl (x2))]) (st1 := [.inl (x2), .inr (.inr 150)]) (h1 := (px_G1, px_up s 150 13 0)) rfl ?_
      refine px_D_call (as := [.inr (.inr 150), .inl (x2)]) (rest := []) rfl rfl rfl rfl ?_
      obtain ⟨q5, hq5, h⟩ := Option.bind_eq_some_iff.mp h
      refine px_D_mono (c_M_takesLaw (d := d + 9) hq5) ?_
      rintro _ _ ⟨rfl, rfl⟩
      show px_D sc (d + 10) 210 55 [(0, .inr (.inr 150)), (1, .inl (x1)), (2, .inl (x2))] [] (px_G1, q5) _
      refine px_D_st 2 (ip1 := 61) (ls1 := [(0, .inr (.inr 150)), (1, .inl (x1)), (2, .inl (x2))]) (st1 := [.inl (x2)]) (h1 := (px_G1, q5)) rfl ?_
      cases h
      exact px_D_iret rfl rfl ⟨rfl, rfl⟩
  · have hc2 : (x2) = ((-1)) := Decidable.of_not_not (of_decide_eq_false hc)
    rw [if_pos hc2] at h
    refine px_D_st 1 (ip1 := 48) (ls1 := [(0, .inr (.inr 150)), (1, .inl (x1)), (2, .inl (x2))]) (st1 := [.inl ((-1))]) (h1 := (px_G1, px_up s 150 13 0)) rfl ?_
    cases h
    exact px_D_iret rfl rfl ⟨rfl, rfl⟩
def f_M_text (s : px_Z) (x1 : Int) : Option (Int × px_Z) := if (f_M_isIn (px_up (px_up (px_up (px_up (px_up (px_up s 150 0 0) 150 33 0) 150 34 (-1)) 150 14 0) 150 27 0) 150 28 0) x1 0 4) = (0) then j_M_text_j41 (px_up (px_up (px_up (px_up (px_up (px_up s 150 0 0) 150 33 0) 150 34 (-1)) 150 14 0) 150 27 0) 150 28 0) x1 (-1) else (f_M_readsText (px_up (px_up (px_up (px_up (px_up (px_up s 150 0 0) 150 33 0) 150 34 (-1)) 150 14 0) 150 27 0) 150 28 0) x1).bind (fun q6 => if (q6.1) = ((-1)) then j_M_text_j41 (px_up (px_up q6.2 150 33 (q6.2 150 31)) 150 34 ((px_up q6.2 150 33 (q6.2 150 31)) 150 32)) x1 q6.1 else j_M_text_j41 q6.2 x1 q6.1)
set_option maxHeartbeats 4000000 in
set_option maxRecDepth 100000 in
theorem c_M_text {sc : List Int} {d : Nat} {s : px_Z} {x1 : Int} {out : Int × px_Z} (h : f_M_text s x1 = some out) : px_D sc (d + 10) 210 0 [(0, .inr (.inr 150)), (1, .inl (x1))] [] (px_G1, s) (px_Qi out) := by
  unfold f_M_text at h
  refine px_D_st 24 (ip1 := 24) (ls1 := [(2, .inl ((-1))), (0, .inr (.inr 150)), (1, .inl (x1))]) (st1 := [.inl (4), .inl (0), .inl (x1), .inr (.inr 150)]) (h1 := (px_G1, px_up (px_up (px_up (px_up (px_up (px_up s 150 0 0) 150 33 0) 150 34 (-1)) 150 14 0) 150 27 0) 150 28 0)) rfl ?_
  refine px_D_call (as := [.inr (.inr 150), .inl (x1), .inl (0), .inl (4)]) (rest := []) rfl rfl rfl rfl ?_
  refine px_D_mono (c_M_isIn (d := d + 9) rfl) ?_
  rintro _ _ ⟨rfl, rfl⟩
  show px_D sc (d + 10) 210 25 [(2, .inl ((-1))), (0, .inr (.inr 150)), (1, .inl (x1))] [.inl (f_M_isIn (px_up (px_up (px_up (px_up (px_up (px_up s 150 0 0) 150 33 0) 150 34 (-1)) 150 14 0) 150 27 0) 150 28 0) x1 0 4)] (px_G1, px_up (px_up (px_up (px_up (px_up (px_up s 150 0 0) 150 33 0) 150 34 (-1)) 150 14 0) 150 27 0) 150 28 0) _
  refine px_D_ifc rfl (fun hc => ?_) (fun hc => ?_)
  · have hc1 : (f_M_isIn (px_up (px_up (px_up (px_up (px_up (px_up s 150 0 0) 150 33 0) 150 34 (-1)) 150 14 0) 150 27 0) 150 28 0) x1 0 4) = (0) := of_decide_eq_true hc
    rw [if_pos hc1] at h
    refine px_D_ls [(0, .inr (.inr 150)), (1, .inl (x1)), (2, .inl ((-1)))] rfl rfl (List.forall_mem_cons.mpr ⟨rfl, List.forall_mem_cons.mpr ⟨rfl, List.forall_mem_cons.mpr ⟨rfl, fun _ h => absurd h List.not_mem_nil⟩⟩⟩) ?_
    exact cj_M_text_j41 h
  · have hc1 : ¬ ((f_M_isIn (px_up (px_up (px_up (px_up (px_up (px_up s 150 0 0) 150 33 0) 150 34 (-1)) 150 14 0) 150 27 0) 150 28 0) x1 0 4) = (0)) := of_decide_eq_false hc
    rw [if_neg hc1] at h
    refine px_D_st 2 (ip1 := 28) (ls1 := [(2, .inl ((-1))), (0, .inr (.inr 150)), (1, .inl (x1))]) (st1 := [.inl (x1), .inr (.inr 150)]) (h1 := (px_G1, px_up (px_up (px_up (px_up (px_up (px_up s 150 0 0) 150 33 0) 150 34 (-1)) 150 14 0) 150 27 0) 150 28 0)) rfl ?_
    refine px_D_call (as := [.inr (.inr 150), .inl (x1)]) (rest := []) rfl rfl rfl rfl ?_
    obtain ⟨q6, hq6, h⟩ := Option.bind_eq_some_iff.mp h
    refine px_D_mono (c_M_readsText (d := d + 0) hq6) ?_
    rintro _ _ ⟨rfl, rfl⟩
    show px_D sc (d + 10) 210 29 [(2, .inl ((-1))), (0, .inr (.inr 150)), (1, .inl (x1))] [.inl (q6.1)] (px_G1, q6.2) _
    refine px_D_st 3 (ip1 := 32) (ls1 := [(2, .inl (q6.1)), (0, .inr (.inr 150)), (1, .inl (x1))]) (st1 := [.inl ((-1)), .inl (q6.1)]) (h1 := (px_G1, q6.2)) rfl ?_
    refine px_D_icmp rfl (fun hc => ?_) (fun hc => ?_)
    · have hc7 : ¬ ((q6.1) = ((-1))) := of_decide_eq_true hc
      rw [if_neg hc7] at h
      refine px_D_ls [(0, .inr (.inr 150)), (1, .inl (x1)), (2, .inl (q6.1))] rfl rfl (List.forall_mem_cons.mpr ⟨rfl, List.forall_mem_cons.mpr ⟨rfl, List.forall_mem_cons.mpr ⟨rfl, fun _ h => absurd h List.not_mem_nil⟩⟩⟩) ?_
      exact cj_M_text_j41 h
    · have hc7 : (q6.1) = ((-1)) := Decidable.of_not_not (of_decide_eq_false hc)
      rw [if_pos hc7] at h
      refine px_D_st 8 (ip1 := 41) (ls1 := [(2, .inl (q6.1)), (0, .inr (.inr 150)), (1, .inl (x1))]) (st1 := []) (h1 := (px_G1, px_up (px_up q6.2 150 33 (q6.2 150 31)) 150 34 ((px_up q6.2 150 33 (q6.2 150 31)) 150 32))) rfl ?_
      refine px_D_ls [(0, .inr (.inr 150)), (1, .inl (x1)), (2, .inl (q6.1))] rfl rfl (List.forall_mem_cons.mpr ⟨rfl, List.forall_mem_cons.mpr ⟨rfl, List.forall_mem_cons.mpr ⟨rfl, fun _ h => absurd h List.not_mem_nil⟩⟩⟩) ?_
      exact cj_M_text_j41 h

def f_M_fault (s : px_Z) (x1 : Int) : Option (Int × px_Z) := if (x1) = (0) then some (((px_up s 150 0 0) 150 33, px_up s 150 0 0)) else (if (x1) = (1) then some (((px_up s 150 0 0) 150 34, px_up s 150 0 0)) else some (((-1), px_up s 150 0 0)))
set_option maxHeartbeats 4000000 in
set_option maxRecDepth 100000 in
theorem c_M_fault {sc : List Int} {d : Nat} {s : px_Z} {x1 : Int} {out : Int × px_Z} (h : f_M_fault s x1 = some out) : px_D sc (d + 0) 211 0 [(0, .inr (.inr 150)), (1, .inl (x1))] [] (px_G1, s) (px_Qi out) := by
  unfold f_M_fault at h
  refine px_D_st 4 (ip1 := 4) (ls1 := [(0, .inr (.inr 150)), (1, .inl (x1))]) (st1 := [.inl (x1)]) (h1 := (px_G1, px_up s 150 0 0)) rfl ?_
  refine px_D_ifc rfl (fun hc => ?_) (fun hc => ?_)
  · have hc1 : ¬ ((x1) = (0)) := of_decide_eq_true hc
    rw [if_neg hc1] at h
    refine px_D_st 2 (ip1 := 10) (ls1 := [(0, .inr (.inr 150)), (1, .inl (x1))]) (st1 := [.inl (1), .inl (x1)]) (h1 := (px_G1, px_up s 150 0 0)) rfl ?_
    refine px_D_icmp rfl (fun hc => ?_) (fun hc => ?_)
    · have hc2 : ¬ ((x1) = (1)) := of_decide_eq_true hc
      rw [if_neg hc2] at h
      refine px_D_st 1 (ip1 := 15) (ls1 := [(0, .inr (.inr 150)), (1, .inl (x1))]) (st1 := [.inl ((-1))]) (h1 := (px_G1, px_up s 150 0 0)) rfl ?_
      cases h
      exact px_D_iret rfl rfl ⟨rfl, rfl⟩
    · have hc2 : (x1) = (1) := Decidable.of_not_not (of_decide_eq_false hc)
      rw [if_pos hc2] at h
      refine px_D_st 3 (ip1 := 15) (ls1 := [(0, .inr (.inr 150)), (1, .inl (x1))]) (st1 := [.inl ((px_up s 150 0 0) 150 34)]) (h1 := (px_G1, px_up s 150 0 0)) rfl ?_
      cases h
      exact px_D_iret rfl rfl ⟨rfl, rfl⟩
  · have hc1 : (x1) = (0) := Decidable.of_not_not (of_decide_eq_false hc)
    rw [if_pos hc1] at h
    refine px_D_st 3 (ip1 := 15) (ls1 := [(0, .inr (.inr 150)), (1, .inl (x1))]) (st1 := [.inl ((px_up s 150 0 0) 150 33)]) (h1 := (px_G1, px_up s 150 0 0)) rfl ?_
    cases h
    exact px_D_iret rfl rfl ⟨rfl, rfl⟩

def f_M_twoOf (s : px_Z) (x1 : Int) (x2 : Int) (x3 : Int) : Option (Int) := if (x1) = (2) then some (px_wr (x2 + x3)) else (if (x1) = (3) then some (px_wr (x2 - x3)) else (if (x1) = (4) then some (px_wr (x2 * x3)) else (if (x1) = (5) then (if (x3) = 0 then none else some (px_wr (x2.tdiv x3))) else (if (x1) = (6) then (if (x3) ≤ (x2) then some 0 else some 1) else (if (x1) = (7) then (if (x2) = (x3) then some 1 else some 0) else (if (x1) = (8) then (if (x2) ≤ (x3) then some 0 else some 1) else (if (x1) = (10) then some (px_wr (x2 * x3)) else (if (px_wr (x2 + x3)) ≤ (0) then some 0 else some 1))))))))
set_option maxHeartbeats 4000000 in
set_option maxRecDepth 100000 in
theorem c_M_twoOf {sc : List Int} {d : Nat} {s : px_Z} {x1 : Int} {x2 : Int} {x3 : Int} {out : Int} (h : f_M_twoOf s x1 x2 x3 = some out) : px_D sc (d + 0) 212 0 [(0, .inr (.inr 150)), (1, .inl (x1)), (2, .inl (x2)), (3, .inl (x3))] [] (px_G1, s) (px_Qp s out) := by
  unfold f_M_twoOf at h
  refine px_D_st 2 (ip1 := 2) (ls1 := [(0, .inr (.inr 150)), (1, .inl (x1)), (2, .inl (x2)), (3, .inl (x3))]) (st1 := [.inl (2), .inl (x1)]) (h1 := (px_G1, s)) rfl ?_
  refine px_D_icmp rfl (fun hc => ?_) (fun hc => ?_)
  · have hc1 : ¬ ((x1) = (2)) := of_decide_eq_true hc
    rw [if_neg hc1] at h
    refine px_D_st 2 (ip1 := 9) (ls1 := [(0, .inr (.inr 150)), (1, .inl (x1)), (2, .inl (x2)), (3, .inl (x3))]) (st1 := [.inl (3), .inl (x1)]) (h1 := (px_G1, s)) rfl ?_
    refine px_D_icmp rfl (fun hc => ?_) (fun hc => ?_)
    · have hc2 : ¬ ((x1) = (3)) := of_decide_eq_true hc
      rw [if_neg hc2] at h
      refine px_D_st 2 (ip1 := 16) (ls1 := [(0, .inr (.inr 150)), (1, .inl (x1)), (2, .inl (x2)), (3, .inl (x3))]) (st1 := [.inl (4), .inl (x1)]) (h1 := (px_G1, s)) rfl ?_
      refine px_D_icmp rfl (fun hc => ?_) (fun hc => ?_)
      · have hc3 : ¬ ((x1) = (4)) := of_decide_eq_true hc
        rw [if_neg hc3] at h
        refine px_D_st 2 (ip1 := 23) (ls1 := [(0, .inr (.inr 150)), (1, .inl (x1)), (2, .inl (x2)), (3, .inl (x3))]) (st1 := [.inl (5), .inl (x1)]) (h1 := (px_G1, s)) rfl ?_
        refine px_D_icmp rfl (fun hc => ?_) (fun hc => ?_)
        · have hc4 : ¬ ((x1) = (5)) := of_decide_eq_true hc
          rw [if_neg hc4] at h
          refine px_D_st 2 (ip1 := 30) (ls1 := [(0, .inr (.inr 150)), (1, .inl (x1)), (2, .inl (x2)), (3, .inl (x3))]) (st1 := [.inl (6), .inl (x1)]) (h1 := (px_G1, s)) rfl ?_
          refine px_D_icmp rfl (fun hc => ?_) (fun hc => ?_)
          · have hc5 : ¬ ((x1) = (6)) := of_decide_eq_true hc
            rw [if_neg hc5] at h
            refine px_D_st 2 (ip1 := 40) (ls1 := [(0, .inr (.inr 150)), (1, .inl (x1)), (2, .inl (x2)), (3, .inl (x3))]) (st1 := [.inl (7), .inl (x1)]) (h1 := (px_G1, s)) rfl ?_
            refine px_D_icmp rfl (fun hc => ?_) (fun hc => ?_)
            · have hc6 : ¬ ((x1) = (7)) := of_decide_eq_true hc
              rw [if_neg hc6] at h
              refine px_D_st 2 (ip1 := 50) (ls1 := [(0, .inr (.inr 150)), (1, .inl (x1)), (2, .inl (x2)), (3, .inl (x3))]) (st1 := [.inl (8), .inl (x1)]) (h1 := (px_G1, s)) rfl ?_
              refine px_D_icmp rfl (fun hc => ?_) (fun hc => ?_)
              · have hc7 : ¬ ((x1) = (8)) := of_decide_eq_true hc
                rw [if_neg hc7] at h
                refine px_D_st 2 (ip1 := 60) (ls1 := [(0, .inr (.inr 150)), (1, .inl (x1)), (2, .inl (x2)), (3, .inl (x3))]) (st1 := [.inl (10), .inl (x1)]) (h1 := (px_G1, s)) rfl ?_
                refine px_D_icmp rfl (fun hc => ?_) (fun hc => ?_)
                · have hc8 : ¬ ((x1) = (10)) := of_decide_eq_true hc
                  rw [if_neg hc8] at h
                  refine px_D_st 3 (ip1 := 68) (ls1 := [(0, .inr (.inr 150)), (1, .inl (x1)), (2, .inl (x2)), (3, .inl (x3))]) (st1 := [.inl (px_wr (x2 + x3))]) (h1 := (px_G1, s)) rfl ?_
                  refine px_D_ifc rfl (fun hc => ?_) (fun hc => ?_)
                  · have hc9 : (px_wr (x2 + x3)) ≤ (0) := of_decide_eq_true hc
                    rw [if_pos hc9] at h
                    refine px_D_st 1 (ip1 := 72) (ls1 := [(0, .inr (.inr 150)), (1, .inl (x1)), (2, .inl (x2)), (3, .inl (x3))]) (st1 := [.inl (0)]) (h1 := (px_G1, s)) rfl ?_
                    cases h
                    exact px_D_iret rfl rfl ⟨rfl, rfl⟩
                  · have hc9 : ¬ ((px_wr (x2 + x3)) ≤ (0)) := of_decide_eq_false hc
                    rw [if_neg hc9] at h
                    refine px_D_st 2 (ip1 := 72) (ls1 := [(0, .inr (.inr 150)), (1, .inl (x1)), (2, .inl (x2)), (3, .inl (x3))]) (st1 := [.inl (1)]) (h1 := (px_G1, s)) rfl ?_
                    cases h
                    exact px_D_iret rfl rfl ⟨rfl, rfl⟩
                · have hc8 : (x1) = (10) := Decidable.of_not_not (of_decide_eq_false hc)
                  rw [if_pos hc8] at h
                  refine px_D_st 4 (ip1 := 72) (ls1 := [(0, .inr (.inr 150)), (1, .inl (x1)), (2, .inl (x2)), (3, .inl (x3))]) (st1 := [.inl (px_wr (x2 * x3))]) (h1 := (px_G1, s)) rfl ?_
                  cases h
                  exact px_D_iret rfl rfl ⟨rfl, rfl⟩
              · have hc7 : (x1) = (8) := Decidable.of_not_not (of_decide_eq_false hc)
                rw [if_pos hc7] at h
                refine px_D_st 2 (ip1 := 53) (ls1 := [(0, .inr (.inr 150)), (1, .inl (x1)), (2, .inl (x2)), (3, .inl (x3))]) (st1 := [.inl (x3), .inl (x2)]) (h1 := (px_G1, s)) rfl ?_
                refine px_D_icmp rfl (fun hc => ?_) (fun hc => ?_)
                · have hc10 : (x2) ≤ (x3) := of_decide_eq_true hc
                  rw [if_pos hc10] at h
                  refine px_D_st 1 (ip1 := 57) (ls1 := [(0, .inr (.inr 150)), (1, .inl (x1)), (2, .inl (x2)), (3, .inl (x3))]) (st1 := [.inl (0)]) (h1 := (px_G1, s)) rfl ?_
                  cases h
                  exact px_D_iret rfl rfl ⟨rfl, rfl⟩
                · have hc10 : ¬ ((x2) ≤ (x3)) := of_decide_eq_false hc
                  rw [if_neg hc10] at h
                  refine px_D_st 2 (ip1 := 57) (ls1 := [(0, .inr (.inr 150)), (1, .inl (x1)), (2, .inl (x2)), (3, .inl (x3))]) (st1 := [.inl (1)]) (h1 := (px_G1, s)) rfl ?_
                  cases h
                  exact px_D_iret rfl rfl ⟨rfl, rfl⟩
            · have hc6 : (x1) = (7) := Decidable.of_not_not (of_decide_eq_false hc)
              rw [if_pos hc6] at h
              refine px_D_st 2 (ip1 := 43) (ls1 := [(0, .inr (.inr 150)), (1, .inl (x1)), (2, .inl (x2)), (3, .inl (x3))]) (st1 := [.inl (x3), .inl (x2)]) (h1 := (px_G1, s)) rfl ?_
              refine px_D_icmp rfl (fun hc => ?_) (fun hc => ?_)
              · have hc11 : ¬ ((x2) = (x3)) := of_decide_eq_true hc
                rw [if_neg hc11] at h
                refine px_D_st 1 (ip1 := 47) (ls1 := [(0, .inr (.inr 150)), (1, .inl (x1)), (2, .inl (x2)), (3, .inl (x3))]) (st1 := [.inl (0)]) (h1 := (px_G1, s)) rfl ?_
                cases h
                exact px_D_iret rfl rfl ⟨rfl, rfl⟩
              · have hc11 : (x2) = (x3) := Decidable.of_not_not (of_decide_eq_false hc)
                rw [if_pos hc11] at h
                refine px_D_st 2 (ip1 := 47) (ls1 := [(0, .inr (.inr 150)), (1, .inl (x1)), (2, .inl (x2)), (3, .inl (x3))]) (st1 := [.inl (1)]) (h1 := (px_G1, s)) rfl ?_
                cases h
                exact px_D_iret rfl rfl ⟨rfl, rfl⟩
          · have hc5 : (x1) = (6) := Decidable.of_not_not (of_decide_eq_false hc)
            rw [if_pos hc5] at h
            refine px_D_st 2 (ip1 := 33) (ls1 := [(0, .inr (.inr 150)), (1, .inl (x1)), (2, .inl (x2)), (3, .inl (x3))]) (st1 := [.inl (x3), .inl (x2)]) (h1 := (px_G1, s)) rfl ?_
            refine px_D_icmp rfl (fun hc => ?_) (fun hc => ?_)
            · have hc12 : (x3) ≤ (x2) := of_decide_eq_true hc
              rw [if_pos hc12] at h
              refine px_D_st 1 (ip1 := 37) (ls1 := [(0, .inr (.inr 150)), (1, .inl (x1)), (2, .inl (x2)), (3, .inl (x3))]) (st1 := [.inl (0)]) (h1 := (px_G1, s)) rfl ?_
              cases h
              exact px_D_iret rfl rfl ⟨rfl, rfl⟩
            · have hc12 : ¬ ((x3) ≤ (x2)) := of_decide_eq_false hc
              rw [if_neg hc12] at h
              refine px_D_st 2 (ip1 := 37) (ls1 := [(0, .inr (.inr 150)), (1, .inl (x1)), (2, .inl (x2)), (3, .inl (x3))]) (st1 := [.inl (1)]) (h1 := (px_G1, s)) rfl ?_
              cases h
              exact px_D_iret rfl rfl ⟨rfl, rfl⟩
        · have hc4 : (x1) = (5) := Decidable.of_not_not (of_decide_eq_false hc)
          rw [if_pos hc4] at h
          refine px_D_st 2 (ip1 := 26) (ls1 := [(0, .inr (.inr 150)), (1, .inl (x1)), (2, .inl (x2)), (3, .inl (x3))]) (st1 := [.inl (x3), .inl (x2)]) (h1 := (px_G1, s)) rfl ?_
          by_cases hc13 : (x3) = 0
          · rw [if_pos hc13] at h; cases h
          rw [if_neg hc13] at h
          refine px_D_div rfl hc13 ?_
          cases h
          exact px_D_iret rfl rfl ⟨rfl, rfl⟩
      · have hc3 : (x1) = (4) := Decidable.of_not_not (of_decide_eq_false hc)
        rw [if_pos hc3] at h
        refine px_D_st 3 (ip1 := 20) (ls1 := [(0, .inr (.inr 150)), (1, .inl (x1)), (2, .inl (x2)), (3, .inl (x3))]) (st1 := [.inl (px_wr (x2 * x3))]) (h1 := (px_G1, s)) rfl ?_
        cases h
        exact px_D_iret rfl rfl ⟨rfl, rfl⟩
    · have hc2 : (x1) = (3) := Decidable.of_not_not (of_decide_eq_false hc)
      rw [if_pos hc2] at h
      refine px_D_st 3 (ip1 := 13) (ls1 := [(0, .inr (.inr 150)), (1, .inl (x1)), (2, .inl (x2)), (3, .inl (x3))]) (st1 := [.inl (px_wr (x2 - x3))]) (h1 := (px_G1, s)) rfl ?_
      cases h
      exact px_D_iret rfl rfl ⟨rfl, rfl⟩
  · have hc1 : (x1) = (2) := Decidable.of_not_not (of_decide_eq_false hc)
    rw [if_pos hc1] at h
    refine px_D_st 3 (ip1 := 6) (ls1 := [(0, .inr (.inr 150)), (1, .inl (x1)), (2, .inl (x2)), (3, .inl (x3))]) (st1 := [.inl (px_wr (x2 + x3))]) (h1 := (px_G1, s)) rfl ?_
    cases h
    exact px_D_iret rfl rfl ⟨rfl, rfl⟩

def l_M_runs_8 (k101 : px_Z → Option (Int × px_Z)) : Nat → px_Z → Int → Int → Int → Int → Option (Int × px_Z)
  | 0, _, _, _, _, _ => none
  | n + 1, s, x1, x3, x4, x5 => if (px_wr ((px_wr (400 * x1)) + x3)) ≤ (x5) then k101 s  else (if 0 ≤ (x5) ∧ (x5) < 1200 then if (s 163 x5.toNat) = (0) then (if 0 ≤ (x5) ∧ (x5) < 1200 then if (s 163 x5.toNat) = (0) then (if 0 ≤ (x5) ∧ (x5) < 1200 then if 0 ≤ (x4) ∧ (x4) < 420 then l_M_runs_8 k101 n (px_up s 175 x4.toNat (s 164 x5.toNat)) x1 x3 (px_wr (x4 + 1)) (px_wr (x5 + 1)) else none else none) else (if 0 ≤ (x5) ∧ (x5) < 1200 then if 0 ≤ (s 164 x5.toNat) ∧ (s 164 x5.toNat) < 9 then if 0 ≤ (x4) ∧ (x4) < 420 then l_M_runs_8 k101 n (px_up s 175 x4.toNat (s 174 (s 164 x5.toNat).toNat)) x1 x3 (px_wr (x4 + 1)) (px_wr (x5 + 1)) else none else none else none) else none) else (if 0 ≤ (x5) ∧ (x5) < 1200 then if (s 163 x5.toNat) = (1) then (if 0 ≤ (x5) ∧ (x5) < 1200 then if (s 163 x5.toNat) = (0) then (if 0 ≤ (x5) ∧ (x5) < 1200 then if 0 ≤ (x4) ∧ (x4) < 420 then l_M_runs_8 k101 n (px_up s 175 x4.toNat (s 164 x5.toNat)) x1 x3 (px_wr (x4 + 1)) (px_wr (x5 + 1)) else none else none) else (if 0 ≤ (x5) ∧ (x5) < 1200 then if 0 ≤ (s 164 x5.toNat) ∧ (s 164 x5.toNat) < 9 then if 0 ≤ (x4) ∧ (x4) < 420 then l_M_runs_8 k101 n (px_up s 175 x4.toNat (s 174 (s 164 x5.toNat).toNat)) x1 x3 (px_wr (x4 + 1)) (px_wr (x5 + 1)) else none else none else none) else none) else (if 0 ≤ (x5) ∧ (x5) < 1200 then if (s 163 x5.toNat) = (9) then (if 0 ≤ (px_wr (x4 - 1)) ∧ (px_wr (x4 - 1)) < 420 then if 0 ≤ (px_wr (x4 - 1)) ∧ (px_wr (x4 - 1)) < 420 then l_M_runs_8 k101 n (px_up s 175 (px_wr (x4 - 1)).toNat (px_wr (1 - (s 175 (px_wr (x4 - 1)).toNat)))) x1 x3 x4 (px_wr (x5 + 1)) else none else none) else (if 0 ≤ (x5) ∧ (x5) < 1200 then if 0 ≤ (px_wr ((px_wr (x4 - 1)) - 1)) ∧ (px_wr ((px_wr (x4 - 1)) - 1)) < 420 then if 0 ≤ (px_wr (x4 - 1)) ∧ (px_wr (x4 - 1)) < 420 then (f_M_twoOf s (s 163 x5.toNat) (s 175 (px_wr ((px_wr (x4 - 1)) - 1)).toNat) (s 175 (px_wr (x4 - 1)).toNat)).bind (fun q18 => if 0 ≤ (px_wr ((px_wr (x4 - 1)) - 1)) ∧ (px_wr ((px_wr (x4 - 1)) - 1)) < 420 then l_M_runs_8 k101 n (px_up s 175 (px_wr ((px_wr (x4 - 1)) - 1)).toNat q18) x1 x3 (px_wr (x4 - 1)) (px_wr (x5 + 1)) else none) else none else none else none) else none) else none) else none)
set_option maxHeartbeats 4000000 in
set_option maxRecDepth 100000 in
theorem cl_M_runs_8 {sc : List Int} {d : Nat} {k101 : px_Z → Option (Int × px_Z)}  (hk101 : ∀ (s : px_Z) (out : Int × px_Z), k101 s  = some out → px_D sc (d + 1) 213 101 [(0, .inr (.inr 150))] [] (px_G1, s) (px_Qi out)) : ∀ (n : Nat) (s : px_Z) (x1 : Int) (x3 : Int) (x4 : Int) (x5 : Int) (out : Int × px_Z), l_M_runs_8 k101 n s x1 x3 x4 x5 = some out → px_D sc (d + 1) 213 8 [(0, .inr (.inr 150)), (1, .inl (x1)), (3, .inl (x3)), (4, .inl (x4)), (5, .inl (x5))] [] (px_G1, s) (px_Qi out) := by
  intro n
  induction n with
  | zero => intro s x1 x3 x4 x5 out h; cases h
  | succ n ih =>
    intro s x1 x3 x4 x5 out h
    rw [l_M_runs_8] at h
    refine px_D_st 6 (ip1 := 14) (ls1 := [(0, .inr (.inr 150)), (1, .inl (x1)), (3, .inl (x3)), (4, .inl (x4)), (5, .inl (x5))]) (st1 := [.inl (px_wr ((px_wr (400 * x1)) + x3)), .inl (x5)]) (h1 := (px_G1, s)) rfl ?_
    refine px_D_icmp rfl (fun hc => ?_) (fun hc => ?_)
    · have hc1 : (px_wr ((px_wr (400 * x1)) + x3)) ≤ (x5) := of_decide_eq_true hc
      rw [if_pos hc1] at h
      refine px_D_ls [(0, .inr (.inr 150))] rfl rfl (List.forall_mem_cons.mpr ⟨rfl, fun _ h => absurd h List.not_mem_nil⟩) ?_
      exact hk101 _ _ h
    · have hc1 : ¬ ((px_wr ((px_wr (400 * x1)) + x3)) ≤ (x5)) := of_decide_eq_false hc
      rw [if_neg hc1] at h
      refine px_D_st 3 (ip1 := 18) (ls1 := [(0, .inr (.inr 150)), (1, .inl (x1)), (3, .inl (x3)), (4, .inl (x4)), (5, .inl (x5))]) (st1 := [.inl (x5), .inr (.inr 163)]) (h1 := (px_G1, s)) rfl ?_
      by_cases hc2 : 0 ≤ (x5) ∧ (x5) < 1200
      case neg => rw [if_neg hc2] at h; cases h
      rw [if_pos hc2] at h
      refine px_D_iald (k := 158) (n := 1200) rfl rfl hc2 ?_
      refine px_D_ifc rfl (fun hc => ?_) (fun hc => ?_)
      · have hc3 : (s 163 x5.toNat) = (0) := of_decide_eq_true hc
        rw [if_pos hc3] at h
        refine px_D_st 6 (ip1 := 32) (ls1 := [(0, .inr (.inr 150)), (1, .inl (x1)), (3, .inl (x3)), (4, .inl (x4)), (5, .inl (x5))]) (st1 := [.inl (x5), .inr (.inr 163), .inl (x4), .inr (.inr 175)]) (h1 := (px_G1, s)) rfl ?_
        by_cases hc4 : 0 ≤ (x5) ∧ (x5) < 1200
        case neg => rw [if_neg hc4] at h; cases h
        rw [if_pos hc4] at h
        refine px_D_iald (k := 158) (n := 1200) rfl rfl hc4 ?_
        refine px_D_ifc rfl (fun hc => ?_) (fun hc => ?_)
        · have hc5 : ¬ ((s 163 x5.toNat) = (0)) := of_decide_eq_true hc
          rw [if_neg hc5] at h
          refine px_D_st 5 (ip1 := 44) (ls1 := [(0, .inr (.inr 150)), (1, .inl (x1)), (3, .inl (x3)), (4, .inl (x4)), (5, .inl (x5))]) (st1 := [.inl (x5), .inr (.inr 164), .inr (.inr 174), .inl (x4), .inr (.inr 175)]) (h1 := (px_G1, s)) rfl ?_
          by_cases hc6 : 0 ≤ (x5) ∧ (x5) < 1200
          case neg => rw [if_neg hc6] at h; cases h
          rw [if_pos hc6] at h
          refine px_D_iald (k := 159) (n := 1200) rfl rfl hc6 ?_
          by_cases hc7 : 0 ≤ (s 164 x5.toNat) ∧ (s 164 x5.toNat) < 9
          case neg => rw [if_neg hc7] at h; cases h
          rw [if_pos hc7] at h
          refine px_D_iald (k := 169) (n := 9) rfl rfl hc7 ?_
          by_cases hc8 : 0 ≤ (x4) ∧ (x4) < 420
          case neg => rw [if_neg hc8] at h; cases h
          rw [if_pos hc8] at h
          refine px_D_iast (k := 170) (n := 420) rfl rfl hc8 ?_
          refine px_D_st 7 (ip1 := 8) (ls1 := [(5, .inl (px_wr (x5 + 1))), (4, .inl (px_wr (x4 + 1))), (0, .inr (.inr 150)), (1, .inl (x1)), (3, .inl (x3))]) (st1 := []) (h1 := (px_G1, px_up s 175 x4.toNat (s 174 (s 164 x5.toNat).toNat))) rfl ?_
          refine px_D_ls [(0, .inr (.inr 150)), (1, .inl (x1)), (3, .inl (x3)), (4, .inl (px_wr (x4 + 1))), (5, .inl (px_wr (x5 + 1)))] rfl rfl (List.forall_mem_cons.mpr ⟨rfl, List.forall_mem_cons.mpr ⟨rfl, List.forall_mem_cons.mpr ⟨rfl, List.forall_mem_cons.mpr ⟨rfl, List.forall_mem_cons.mpr ⟨rfl, fun _ h => absurd h List.not_mem_nil⟩⟩⟩⟩⟩) ?_
          exact ih _ _ _ _ _ _ h
        · have hc5 : (s 163 x5.toNat) = (0) := Decidable.of_not_not (of_decide_eq_false hc)
          rw [if_pos hc5] at h
          refine px_D_st 3 (ip1 := 37) (ls1 := [(0, .inr (.inr 150)), (1, .inl (x1)), (3, .inl (x3)), (4, .inl (x4)), (5, .inl (x5))]) (st1 := [.inl (x5), .inr (.inr 164), .inl (x4), .inr (.inr 175)]) (h1 := (px_G1, s)) rfl ?_
          by_cases hc9 : 0 ≤ (x5) ∧ (x5) < 1200
          case neg => rw [if_neg hc9] at h; cases h
          rw [if_pos hc9] at h
          refine px_D_iald (k := 159) (n := 1200) rfl rfl hc9 ?_
          refine px_D_st 1 (ip1 := 46) (ls1 := [(0, .inr (.inr 150)), (1, .inl (x1)), (3, .inl (x3)), (4, .inl (x4)), (5, .inl (x5))]) (st1 := [.inl (s 164 x5.toNat), .inl (x4), .inr (.inr 175)]) (h1 := (px_G1, s)) rfl ?_
          by_cases hc10 : 0 ≤ (x4) ∧ (x4) < 420
          case neg => rw [if_neg hc10] at h; cases h
          rw [if_pos hc10] at h
          refine px_D_iast (k := 170) (n := 420) rfl rfl hc10 ?_
          refine px_D_st 7 (ip1 := 8) (ls1 := [(5, .inl (px_wr (x5 + 1))), (4, .inl (px_wr (x4 + 1))), (0, .inr (.inr 150)), (1, .inl (x1)), (3, .inl (x3))]) (st1 := []) (h1 := (px_G1, px_up s 175 x4.toNat (s 164 x5.toNat))) rfl ?_
          refine px_D_ls [(0, .inr (.inr 150)), (1, .inl (x1)), (3, .inl (x3)), (4, .inl (px_wr (x4 + 1))), (5, .inl (px_wr (x5 + 1)))] rfl rfl (List.forall_mem_cons.mpr ⟨rfl, List.forall_mem_cons.mpr ⟨rfl, List.forall_mem_cons.mpr ⟨rfl, List.forall_mem_cons.mpr ⟨rfl, List.forall_mem_cons.mpr ⟨rfl, fun _ h => absurd h List.not_mem_nil⟩⟩⟩⟩⟩) ?_
          exact ih _ _ _ _ _ _ h
      · have hc3 : ¬ ((s 163 x5.toNat) = (0)) := of_decide_eq_false hc
        rw [if_neg hc3] at h
        refine px_D_st 3 (ip1 := 23) (ls1 := [(0, .inr (.inr 150)), (1, .inl (x1)), (3, .inl (x3)), (4, .inl (x4)), (5, .inl (x5))]) (st1 := [.inl (x5), .inr (.inr 163)]) (h1 := (px_G1, s)) rfl ?_
        by_cases hc11 : 0 ≤ (x5) ∧ (x5) < 1200
        case neg => rw [if_neg hc11] at h; cases h
        rw [if_pos hc11] at h
        refine px_D_iald (k := 158) (n := 1200) rfl rfl hc11 ?_
        refine px_D_st 1 (ip1 := 25) (ls1 := [(0, .inr (.inr 150)), (1, .inl (x1)), (3, .inl (x3)), (4, .inl (x4)), (5, .inl (x5))]) (st1 := [.inl (1), .inl (s 163 x5.toNat)]) (h1 := (px_G1, s)) rfl ?_
        refine px_D_icmp rfl (fun hc => ?_) (fun hc => ?_)
        · have hc12 : ¬ ((s 163 x5.toNat) = (1)) := of_decide_eq_true hc
          rw [if_neg hc12] at h
          refine px_D_st 3 (ip1 := 55) (ls1 := [(0, .inr (.inr 150)), (1, .inl (x1)), (3, .inl (x3)), (4, .inl (x4)), (5, .inl (x5))]) (st1 := [.inl (x5), .inr (.inr 163)]) (h1 := (px_G1, s)) rfl ?_
          by_cases hc13 : 0 ≤ (x5) ∧ (x5) < 1200
          case neg => rw [if_neg hc13] at h; cases h
          rw [if_pos hc13] at h
          refine px_D_iald (k := 158) (n := 1200) rfl rfl hc13 ?_
          refine px_D_st 1 (ip1 := 57) (ls1 := [(0, .inr (.inr 150)), (1, .inl (x1)), (3, .inl (x3)), (4, .inl (x4)), (5, .inl (x5))]) (st1 := [.inl (9), .inl (s 163 x5.toNat)]) (h1 := (px_G1, s)) rfl ?_
          refine px_D_icmp rfl (fun hc => ?_) (fun hc => ?_)
          · have hc14 : ¬ ((s 163 x5.toNat) = (9)) := of_decide_eq_true hc
            rw [if_neg hc14] at h
            refine px_D_st 13 (ip1 := 86) (ls1 := [(4, .inl (px_wr (x4 - 1))), (0, .inr (.inr 150)), (1, .inl (x1)), (3, .inl (x3)), (5, .inl (x5))]) (st1 := [.inl (x5), .inr (.inr 163), .inr (.inr 150), .inl (px_wr ((px_wr (x4 - 1)) - 1)), .inr (.inr 175)]) (h1 := (px_G1, s)) rfl ?_
            by_cases hc15 : 0 ≤ (x5) ∧ (x5) < 1200
            case neg => rw [if_neg hc15] at h; cases h
            rw [if_pos hc15] at h
            refine px_D_iald (k := 158) (n := 1200) rfl rfl hc15 ?_
            refine px_D_st 5 (ip1 := 92) (ls1 := [(4, .inl (px_wr (x4 - 1))), (0, .inr (.inr 150)), (1, .inl (x1)), (3, .inl (x3)), (5, .inl (x5))]) (st1 := [.inl (px_wr ((px_wr (x4 - 1)) - 1)), .inr (.inr 175), .inl (s 163 x5.toNat), .inr (.inr 150), .inl (px_wr ((px_wr (x4 - 1)) - 1)), .inr (.inr 175)]) (h1 := (px_G1, s)) rfl ?_
            by_cases hc16 : 0 ≤ (px_wr ((px_wr (x4 - 1)) - 1)) ∧ (px_wr ((px_wr (x4 - 1)) - 1)) < 420
            case neg => rw [if_neg hc16] at h; cases h
            rw [if_pos hc16] at h
            refine px_D_iald (k := 170) (n := 420) rfl rfl hc16 ?_
            refine px_D_st 3 (ip1 := 96) (ls1 := [(4, .inl (px_wr (x4 - 1))), (0, .inr (.inr 150)), (1, .inl (x1)), (3, .inl (x3)), (5, .inl (x5))]) (st1 := [.inl (px_wr (x4 - 1)), .inr (.inr 175), .inl (s 175 (px_wr ((px_wr (x4 - 1)) - 1)).toNat), .inl (s 163 x5.toNat), .inr (.inr 150), .inl (px_wr ((px_wr (x4 - 1)) - 1)), .inr (.inr 175)]) (h1 := (px_G1, s)) rfl ?_
            by_cases hc17 : 0 ≤ (px_wr (x4 - 1)) ∧ (px_wr (x4 - 1)) < 420
            case neg => rw [if_neg hc17] at h; cases h
            rw [if_pos hc17] at h
            refine px_D_iald (k := 170) (n := 420) rfl rfl hc17 ?_
            refine px_D_call (as := [.inr (.inr 150), .inl (s 163 x5.toNat), .inl (s 175 (px_wr ((px_wr (x4 - 1)) - 1)).toNat), .inl (s 175 (px_wr (x4 - 1)).toNat)]) (rest := [.inl (px_wr ((px_wr (x4 - 1)) - 1)), .inr (.inr 175)]) rfl rfl rfl rfl ?_
            obtain ⟨q18, hq18, h⟩ := Option.bind_eq_some_iff.mp h
            refine px_D_mono (c_M_twoOf (d := d + 0) hq18) ?_
            rintro _ _ ⟨rfl, rfl⟩
            show px_D sc (d + 1) 213 98 [(4, .inl (px_wr (x4 - 1))), (0, .inr (.inr 150)), (1, .inl (x1)), (3, .inl (x3)), (5, .inl (x5))] [.inl (q18), .inl (px_wr ((px_wr (x4 - 1)) - 1)), .inr (.inr 175)] (px_G1, s) _
            by_cases hc19 : 0 ≤ (px_wr ((px_wr (x4 - 1)) - 1)) ∧ (px_wr ((px_wr (x4 - 1)) - 1)) < 420
            case neg => rw [if_neg hc19] at h; cases h
            rw [if_pos hc19] at h
            refine px_D_iast (k := 170) (n := 420) rfl rfl hc19 ?_
            refine px_D_st 2 (ip1 := 8) (ls1 := [(5, .inl (px_wr (x5 + 1))), (4, .inl (px_wr (x4 - 1))), (0, .inr (.inr 150)), (1, .inl (x1)), (3, .inl (x3))]) (st1 := []) (h1 := (px_G1, px_up s 175 (px_wr ((px_wr (x4 - 1)) - 1)).toNat q18)) rfl ?_
            refine px_D_ls [(0, .inr (.inr 150)), (1, .inl (x1)), (3, .inl (x3)), (4, .inl (px_wr (x4 - 1))), (5, .inl (px_wr (x5 + 1)))] rfl rfl (List.forall_mem_cons.mpr ⟨rfl, List.forall_mem_cons.mpr ⟨rfl, List.forall_mem_cons.mpr ⟨rfl, List.forall_mem_cons.mpr ⟨rfl, List.forall_mem_cons.mpr ⟨rfl, fun _ h => absurd h List.not_mem_nil⟩⟩⟩⟩⟩) ?_
            exact ih _ _ _ _ _ _ h
          · have hc14 : (s 163 x5.toNat) = (9) := Decidable.of_not_not (of_decide_eq_false hc)
            rw [if_pos hc14] at h
            refine px_D_st 11 (ip1 := 69) (ls1 := [(0, .inr (.inr 150)), (1, .inl (x1)), (3, .inl (x3)), (4, .inl (x4)), (5, .inl (x5))]) (st1 := [.inl (px_wr (x4 - 1)), .inr (.inr 175), .inl (1), .inl (px_wr (x4 - 1)), .inr (.inr 175)]) (h1 := (px_G1, s)) rfl ?_
            by_cases hc20 : 0 ≤ (px_wr (x4 - 1)) ∧ (px_wr (x4 - 1)) < 420
            case neg => rw [if_neg hc20] at h; cases h
            rw [if_pos hc20] at h
            refine px_D_iald (k := 170) (n := 420) rfl rfl hc20 ?_
            refine px_D_st 1 (ip1 := 71) (ls1 := [(0, .inr (.inr 150)), (1, .inl (x1)), (3, .inl (x3)), (4, .inl (x4)), (5, .inl (x5))]) (st1 := [.inl (px_wr (1 - (s 175 (px_wr (x4 - 1)).toNat))), .inl (px_wr (x4 - 1)), .inr (.inr 175)]) (h1 := (px_G1, s)) rfl ?_
            by_cases hc21 : 0 ≤ (px_wr (x4 - 1)) ∧ (px_wr (x4 - 1)) < 420
            case neg => rw [if_neg hc21] at h; cases h
            rw [if_pos hc21] at h
            refine px_D_iast (k := 170) (n := 420) rfl rfl hc21 ?_
            refine px_D_st 3 (ip1 := 8) (ls1 := [(5, .inl (px_wr (x5 + 1))), (0, .inr (.inr 150)), (1, .inl (x1)), (3, .inl (x3)), (4, .inl (x4))]) (st1 := []) (h1 := (px_G1, px_up s 175 (px_wr (x4 - 1)).toNat (px_wr (1 - (s 175 (px_wr (x4 - 1)).toNat))))) rfl ?_
            refine px_D_ls [(0, .inr (.inr 150)), (1, .inl (x1)), (3, .inl (x3)), (4, .inl (x4)), (5, .inl (px_wr (x5 + 1)))] rfl rfl (List.forall_mem_cons.mpr ⟨rfl, List.forall_mem_cons.mpr ⟨rfl, List.forall_mem_cons.mpr ⟨rfl, List.forall_mem_cons.mpr ⟨rfl, List.forall_mem_cons.mpr ⟨rfl, fun _ h => absurd h List.not_mem_nil⟩⟩⟩⟩⟩) ?_
            exact ih _ _ _ _ _ _ h
        · have hc12 : (s 163 x5.toNat) = (1) := Decidable.of_not_not (of_decide_eq_false hc)
          rw [if_pos hc12] at h
          refine px_D_st 6 (ip1 := 32) (ls1 := [(0, .inr (.inr 150)), (1, .inl (x1)), (3, .inl (x3)), (4, .inl (x4)), (5, .inl (x5))]) (st1 := [.inl (x5), .inr (.inr 163), .inl (x4), .inr (.inr 175)]) (h1 := (px_G1, s)) rfl ?_
          by_cases hc22 : 0 ≤ (x5) ∧ (x5) < 1200
          case neg => rw [if_neg hc22] at h; cases h
          rw [if_pos hc22] at h
          refine px_D_iald (k := 158) (n := 1200) rfl rfl hc22 ?_
          refine px_D_ifc rfl (fun hc => ?_) (fun hc => ?_)
          · have hc23 : ¬ ((s 163 x5.toNat) = (0)) := of_decide_eq_true hc
            rw [if_neg hc23] at h
            refine px_D_st 5 (ip1 := 44) (ls1 := [(0, .inr (.inr 150)), (1, .inl (x1)), (3, .inl (x3)), (4, .inl (x4)), (5, .inl (x5))]) (st1 := [.inl (x5), .inr (.inr 164), .inr (.inr 174), .inl (x4), .inr (.inr 175)]) (h1 := (px_G1, s)) rfl ?_
            by_cases hc24 : 0 ≤ (x5) ∧ (x5) < 1200
            case neg => rw [if_neg hc24] at h; cases h
            rw [if_pos hc24] at h
            refine px_D_iald (k := 159) (n := 1200) rfl rfl hc24 ?_
            by_cases hc25 : 0 ≤ (s 164 x5.toNat) ∧ (s 164 x5.toNat) < 9
            case neg => rw [if_neg hc25] at h; cases h
            rw [if_pos hc25] at h
            refine px_D_iald (k := 169) (n := 9) rfl rfl hc25 ?_
            by_cases hc26 : 0 ≤ (x4) ∧ (x4) < 420
            case neg => rw [if_neg hc26] at h; cases h
            rw [if_pos hc26] at h
            refine px_D_iast (k := 170) (n := 420) rfl rfl hc26 ?_
            refine px_D_st 7 (ip1 := 8) (ls1 := [(5, .inl (px_wr (x5 + 1))), (4, .inl (px_wr (x4 + 1))), (0, .inr (.inr 150)), (1, .inl (x1)), (3, .inl (x3))]) (st1 := []) (h1 := (px_G1, px_up s 175 x4.toNat (s 174 (s 164 x5.toNat).toNat))) rfl ?_
            refine px_D_ls [(0, .inr (.inr 150)), (1, .inl (x1)), (3, .inl (x3)), (4, .inl (px_wr (x4 + 1))), (5, .inl (px_wr (x5 + 1)))] rfl rfl (List.forall_mem_cons.mpr ⟨rfl, List.forall_mem_cons.mpr ⟨rfl, List.forall_mem_cons.mpr ⟨rfl, List.forall_mem_cons.mpr ⟨rfl, List.forall_mem_cons.mpr ⟨rfl, fun _ h => absurd h List.not_mem_nil⟩⟩⟩⟩⟩) ?_
            exact ih _ _ _ _ _ _ h
          · have hc23 : (s 163 x5.toNat) = (0) := Decidable.of_not_not (of_decide_eq_false hc)
            rw [if_pos hc23] at h
            refine px_D_st 3 (ip1 := 37) (ls1 := [(0, .inr (.inr 150)), (1, .inl (x1)), (3, .inl (x3)), (4, .inl (x4)), (5, .inl (x5))]) (st1 := [.inl (x5), .inr (.inr 164), .inl (x4), .inr (.inr 175)]) (h1 := (px_G1, s)) rfl ?_
            by_cases hc27 : 0 ≤ (x5) ∧ (x5) < 1200
            case neg => rw [if_neg hc27] at h; cases h
            rw [if_pos hc27] at h
            refine px_D_iald (k := 159) (n := 1200) rfl rfl hc27 ?_
            refine px_D_st 1 (ip1 := 46) (ls1 := [(0, .inr (.inr 150)), (1, .inl (x1)), (3, .inl (x3)), (4, .inl (x4)), (5, .inl (x5))]) (st1 := [.inl (s 164 x5.toNat), .inl (x4), .inr (.inr 175)]) (h1 := (px_G1, s)) rfl ?_
            by_cases hc28 : 0 ≤ (x4) ∧ (x4) < 420
            case neg => rw [if_neg hc28] at h; cases h
            rw [if_pos hc28] at h
            refine px_D_iast (k := 170) (n := 420) rfl rfl hc28 ?_
            refine px_D_st 7 (ip1 := 8) (ls1 := [(5, .inl (px_wr (x5 + 1))), (4, .inl (px_wr (x4 + 1))), (0, .inr (.inr 150)), (1, .inl (x1)), (3, .inl (x3))]) (st1 := []) (h1 := (px_G1, px_up s 175 x4.toNat (s 164 x5.toNat))) rfl ?_
            refine px_D_ls [(0, .inr (.inr 150)), (1, .inl (x1)), (3, .inl (x3)), (4, .inl (px_wr (x4 + 1))), (5, .inl (px_wr (x5 + 1)))] rfl rfl (List.forall_mem_cons.mpr ⟨rfl, List.forall_mem_cons.mpr ⟨rfl, List.forall_mem_cons.mpr ⟨rfl, List.forall_mem_cons.mpr ⟨rfl, List.forall_mem_cons.mpr ⟨rfl, fun _ h => absurd h List.not_mem_nil⟩⟩⟩⟩⟩) ?_
            exact ih _ _ _ _ _ _ h
def f_M_runs (s : px_Z) (x1 : Int) (x2 : Int) (x3 : Int) : Option (Int × px_Z) := l_M_runs_8 (fun s => some (s 175 0, s)) px_big s x1 x3 0 (px_wr ((px_wr (400 * x1)) + x2))
set_option maxHeartbeats 4000000 in
set_option maxRecDepth 100000 in
theorem c_M_runs {sc : List Int} {d : Nat} {s : px_Z} {x1 : Int} {x2 : Int} {x3 : Int} {out : Int × px_Z} (h : f_M_runs s x1 x2 x3 = some out) : px_D sc (d + 1) 213 0 [(0, .inr (.inr 150)), (1, .inl (x1)), (2, .inl (x2)), (3, .inl (x3))] [] (px_G1, s) (px_Qi out) := by
  unfold f_M_runs at h
  refine px_D_st 8 (ip1 := 8) (ls1 := [(5, .inl (px_wr ((px_wr (400 * x1)) + x2))), (4, .inl (0)), (0, .inr (.inr 150)), (1, .inl (x1)), (2, .inl (x2)), (3, .inl (x3))]) (st1 := []) (h1 := (px_G1, s)) rfl ?_
  refine px_D_ls [(0, .inr (.inr 150)), (1, .inl (x1)), (3, .inl (x3)), (4, .inl (0)), (5, .inl (px_wr ((px_wr (400 * x1)) + x2)))] rfl rfl (List.forall_mem_cons.mpr ⟨rfl, List.forall_mem_cons.mpr ⟨rfl, List.forall_mem_cons.mpr ⟨rfl, List.forall_mem_cons.mpr ⟨rfl, List.forall_mem_cons.mpr ⟨rfl, fun _ h => absurd h List.not_mem_nil⟩⟩⟩⟩⟩) ?_
  refine cl_M_runs_8 ?_ px_big _ _ _ _ _ _ h
  · intro s out h
    refine px_D_st 4 (ip1 := 105) (ls1 := [(0, .inr (.inr 150))]) (st1 := [.inl (s 175 0)]) (h1 := (px_G1, s)) rfl ?_
    cases h
    exact px_D_iret rfl rfl ⟨rfl, rfl⟩

def l_M_lineOf_2  : Nat → px_Z → Int → Int → Int → Option (Int × px_Z)
  | 0, _, _, _, _ => none
  | n + 1, s, x1, x2, x3 => if 0 ≤ (x1) ∧ (x1) < 2 then if (s 158 x1.toNat) ≤ (x3) then some (((-1), s)) else (if 0 ≤ (px_wr ((px_wr (16 * x1)) + x3)) ∧ (px_wr ((px_wr (16 * x1)) + x3)) < 48 then if (s 159 (px_wr ((px_wr (16 * x1)) + x3)).toNat) = (x2) then (if 0 ≤ (px_wr ((px_wr (16 * x1)) + x3)) ∧ (px_wr ((px_wr (16 * x1)) + x3)) < 48 then if 0 ≤ (px_wr ((px_wr (16 * x1)) + x3)) ∧ (px_wr ((px_wr (16 * x1)) + x3)) < 48 then if (s 161 (px_wr ((px_wr (16 * x1)) + x3)).toNat) = (s 162 (px_wr ((px_wr (16 * x1)) + x3)).toNat) then some ((px_wr ((px_wr (16 * x1)) + x3), s)) else (if 0 ≤ (px_wr ((px_wr (16 * x1)) + x3)) ∧ (px_wr ((px_wr (16 * x1)) + x3)) < 48 then if 0 ≤ (px_wr ((px_wr (16 * x1)) + x3)) ∧ (px_wr ((px_wr (16 * x1)) + x3)) < 48 then (f_M_runs s x1 (s 161 (px_wr ((px_wr (16 * x1)) + x3)).toNat) (s 162 (px_wr ((px_wr (16 * x1)) + x3)).toNat)).bind (fun q10 => if (q10.1) = (0) then l_M_lineOf_2  n q10.2 x1 x2 (px_wr (x3 + 1)) else some ((px_wr ((px_wr (16 * x1)) + x3), q10.2))) else none else none) else none else none) else l_M_lineOf_2  n s x1 x2 (px_wr (x3 + 1)) else none) else none
set_option maxHeartbeats 4000000 in
set_option maxRecDepth 100000 in
theorem cl_M_lineOf_2 {sc : List Int} {d : Nat}  : ∀ (n : Nat) (s : px_Z) (x1 : Int) (x2 : Int) (x3 : Int) (out : Int × px_Z), l_M_lineOf_2  n s x1 x2 x3 = some out → px_D sc (d + 2) 214 2 [(0, .inr (.inr 150)), (1, .inl (x1)), (2, .inl (x2)), (3, .inl (x3))] [] (px_G1, s) (px_Qi out) := by
  intro n
  induction n with
  | zero => intro s x1 x2 x3 out h; cases h
  | succ n ih =>
    intro s x1 x2 x3 out h
    rw [l_M_lineOf_2] at h
    refine px_D_st 4 (ip1 := 6) (ls1 := [(0, .inr (.inr 150)), (1, .inl (x1)), (2, .inl (x2)), (3, .inl (x3))]) (st1 := [.inl (x1), .inr (.inr 158), .inl (x3)]) (h1 := (px_G1, s)) rfl ?_
    by_cases hc1 : 0 ≤ (x1) ∧ (x1) < 2
    case neg => rw [if_neg hc1] at h; cases h
    rw [if_pos hc1] at h
    refine px_D_iald (k := 153) (n := 2) rfl rfl hc1 ?_
    refine px_D_icmp rfl (fun hc => ?_) (fun hc => ?_)
    · have hc2 : (s 158 x1.toNat) ≤ (x3) := of_decide_eq_true hc
      rw [if_pos hc2] at h
      refine px_D_st 1 (ip1 := 46) (ls1 := [(0, .inr (.inr 150)), (1, .inl (x1)), (2, .inl (x2)), (3, .inl (x3))]) (st1 := [.inl ((-1))]) (h1 := (px_G1, s)) rfl ?_
      cases h
      exact px_D_iret rfl rfl ⟨rfl, rfl⟩
    · have hc2 : ¬ ((s 158 x1.toNat) ≤ (x3)) := of_decide_eq_false hc
      rw [if_neg hc2] at h
      refine px_D_st 9 (ip1 := 17) (ls1 := [(4, .inl (px_wr ((px_wr (16 * x1)) + x3))), (0, .inr (.inr 150)), (1, .inl (x1)), (2, .inl (x2)), (3, .inl (x3))]) (st1 := [.inl (px_wr ((px_wr (16 * x1)) + x3)), .inr (.inr 159)]) (h1 := (px_G1, s)) rfl ?_
      by_cases hc3 : 0 ≤ (px_wr ((px_wr (16 * x1)) + x3)) ∧ (px_wr ((px_wr (16 * x1)) + x3)) < 48
      case neg => rw [if_neg hc3] at h; cases h
      rw [if_pos hc3] at h
      refine px_D_iald (k := 154) (n := 48) rfl rfl hc3 ?_
      refine px_D_st 1 (ip1 := 19) (ls1 := [(4, .inl (px_wr ((px_wr (16 * x1)) + x3))), (0, .inr (.inr 150)), (1, .inl (x1)), (2, .inl (x2)), (3, .inl (x3))]) (st1 := [.inl (x2), .inl (s 159 (px_wr ((px_wr (16 * x1)) + x3)).toNat)]) (h1 := (px_G1, s)) rfl ?_
      refine px_D_icmp rfl (fun hc => ?_) (fun hc => ?_)
      · have hc4 : ¬ ((s 159 (px_wr ((px_wr (16 * x1)) + x3)).toNat) = (x2)) := of_decide_eq_true hc
        rw [if_neg hc4] at h
        refine px_D_st 2 (ip1 := 2) (ls1 := [(3, .inl (px_wr (x3 + 1))), (4, .inl (px_wr ((px_wr (16 * x1)) + x3))), (0, .inr (.inr 150)), (1, .inl (x1)), (2, .inl (x2))]) (st1 := []) (h1 := (px_G1, s)) rfl ?_
        refine px_D_ls [(0, .inr (.inr 150)), (1, .inl (x1)), (2, .inl (x2)), (3, .inl (px_wr (x3 + 1)))] rfl rfl (List.forall_mem_cons.mpr ⟨rfl, List.forall_mem_cons.mpr ⟨rfl, List.forall_mem_cons.mpr ⟨rfl, List.forall_mem_cons.mpr ⟨rfl, fun _ h => absurd h List.not_mem_nil⟩⟩⟩⟩) ?_
        exact ih _ _ _ _ _ h
      · have hc4 : (s 159 (px_wr ((px_wr (16 * x1)) + x3)).toNat) = (x2) := Decidable.of_not_not (of_decide_eq_false hc)
        rw [if_pos hc4] at h
        refine px_D_st 3 (ip1 := 23) (ls1 := [(4, .inl (px_wr ((px_wr (16 * x1)) + x3))), (0, .inr (.inr 150)), (1, .inl (x1)), (2, .inl (x2)), (3, .inl (x3))]) (st1 := [.inl (px_wr ((px_wr (16 * x1)) + x3)), .inr (.inr 161)]) (h1 := (px_G1, s)) rfl ?_
        by_cases hc5 : 0 ≤ (px_wr ((px_wr (16 * x1)) + x3)) ∧ (px_wr ((px_wr (16 * x1)) + x3)) < 48
        case neg => rw [if_neg hc5] at h; cases h
        rw [if_pos hc5] at h
        refine px_D_iald (k := 156) (n := 48) rfl rfl hc5 ?_
        refine px_D_st 3 (ip1 := 27) (ls1 := [(4, .inl (px_wr ((px_wr (16 * x1)) + x3))), (0, .inr (.inr 150)), (1, .inl (x1)), (2, .inl (x2)), (3, .inl (x3))]) (st1 := [.inl (px_wr ((px_wr (16 * x1)) + x3)), .inr (.inr 162), .inl (s 161 (px_wr ((px_wr (16 * x1)) + x3)).toNat)]) (h1 := (px_G1, s)) rfl ?_
        by_cases hc6 : 0 ≤ (px_wr ((px_wr (16 * x1)) + x3)) ∧ (px_wr ((px_wr (16 * x1)) + x3)) < 48
        case neg => rw [if_neg hc6] at h; cases h
        rw [if_pos hc6] at h
        refine px_D_iald (k := 157) (n := 48) rfl rfl hc6 ?_
        refine px_D_icmp rfl (fun hc => ?_) (fun hc => ?_)
        · have hc7 : (s 161 (px_wr ((px_wr (16 * x1)) + x3)).toNat) = (s 162 (px_wr ((px_wr (16 * x1)) + x3)).toNat) := of_decide_eq_true hc
          rw [if_pos hc7] at h
          refine px_D_st 1 (ip1 := 42) (ls1 := [(4, .inl (px_wr ((px_wr (16 * x1)) + x3))), (0, .inr (.inr 150)), (1, .inl (x1)), (2, .inl (x2)), (3, .inl (x3))]) (st1 := [.inl (px_wr ((px_wr (16 * x1)) + x3))]) (h1 := (px_G1, s)) rfl ?_
          cases h
          exact px_D_iret rfl rfl ⟨rfl, rfl⟩
        · have hc7 : ¬ ((s 161 (px_wr ((px_wr (16 * x1)) + x3)).toNat) = (s 162 (px_wr ((px_wr (16 * x1)) + x3)).toNat)) := of_decide_eq_false hc
          rw [if_neg hc7] at h
          refine px_D_st 5 (ip1 := 34) (ls1 := [(4, .inl (px_wr ((px_wr (16 * x1)) + x3))), (0, .inr (.inr 150)), (1, .inl (x1)), (2, .inl (x2)), (3, .inl (x3))]) (st1 := [.inl (px_wr ((px_wr (16 * x1)) + x3)), .inr (.inr 161), .inl (x1), .inr (.inr 150)]) (h1 := (px_G1, s)) rfl ?_
          by_cases hc8 : 0 ≤ (px_wr ((px_wr (16 * x1)) + x3)) ∧ (px_wr ((px_wr (16 * x1)) + x3)) < 48
          case neg => rw [if_neg hc8] at h; cases h
          rw [if_pos hc8] at h
          refine px_D_iald (k := 156) (n := 48) rfl rfl hc8 ?_
          refine px_D_st 3 (ip1 := 38) (ls1 := [(4, .inl (px_wr ((px_wr (16 * x1)) + x3))), (0, .inr (.inr 150)), (1, .inl (x1)), (2, .inl (x2)), (3, .inl (x3))]) (st1 := [.inl (px_wr ((px_wr (16 * x1)) + x3)), .inr (.inr 162), .inl (s 161 (px_wr ((px_wr (16 * x1)) + x3)).toNat), .inl (x1), .inr (.inr 150)]) (h1 := (px_G1, s)) rfl ?_
          by_cases hc9 : 0 ≤ (px_wr ((px_wr (16 * x1)) + x3)) ∧ (px_wr ((px_wr (16 * x1)) + x3)) < 48
          case neg => rw [if_neg hc9] at h; cases h
          rw [if_pos hc9] at h
          refine px_D_iald (k := 157) (n := 48) rfl rfl hc9 ?_
          refine px_D_call (as := [.inr (.inr 150), .inl (x1), .inl (s 161 (px_wr ((px_wr (16 * x1)) + x3)).toNat), .inl (s 162 (px_wr ((px_wr (16 * x1)) + x3)).toNat)]) (rest := []) rfl rfl rfl rfl ?_
          obtain ⟨q10, hq10, h⟩ := Option.bind_eq_some_iff.mp h
          refine px_D_mono (c_M_runs (d := d + 0) hq10) ?_
          rintro _ _ ⟨rfl, rfl⟩
          show px_D sc (d + 2) 214 40 [(4, .inl (px_wr ((px_wr (16 * x1)) + x3))), (0, .inr (.inr 150)), (1, .inl (x1)), (2, .inl (x2)), (3, .inl (x3))] [.inl (q10.1)] (px_G1, q10.2) _
          refine px_D_ifc rfl (fun hc => ?_) (fun hc => ?_)
          · have hc11 : (q10.1) = (0) := of_decide_eq_true hc
            rw [if_pos hc11] at h
            refine px_D_st 2 (ip1 := 2) (ls1 := [(3, .inl (px_wr (x3 + 1))), (4, .inl (px_wr ((px_wr (16 * x1)) + x3))), (0, .inr (.inr 150)), (1, .inl (x1)), (2, .inl (x2))]) (st1 := []) (h1 := (px_G1, q10.2)) rfl ?_
            refine px_D_ls [(0, .inr (.inr 150)), (1, .inl (x1)), (2, .inl (x2)), (3, .inl (px_wr (x3 + 1)))] rfl rfl (List.forall_mem_cons.mpr ⟨rfl, List.forall_mem_cons.mpr ⟨rfl, List.forall_mem_cons.mpr ⟨rfl, List.forall_mem_cons.mpr ⟨rfl, fun _ h => absurd h List.not_mem_nil⟩⟩⟩⟩) ?_
            exact ih _ _ _ _ _ h
          · have hc11 : ¬ ((q10.1) = (0)) := of_decide_eq_false hc
            rw [if_neg hc11] at h
            refine px_D_st 1 (ip1 := 42) (ls1 := [(4, .inl (px_wr ((px_wr (16 * x1)) + x3))), (0, .inr (.inr 150)), (1, .inl (x1)), (2, .inl (x2)), (3, .inl (x3))]) (st1 := [.inl (px_wr ((px_wr (16 * x1)) + x3))]) (h1 := (px_G1, q10.2)) rfl ?_
            cases h
            exact px_D_iret rfl rfl ⟨rfl, rfl⟩
def f_M_lineOf (s : px_Z) (x1 : Int) (x2 : Int) : Option (Int × px_Z) := l_M_lineOf_2  px_big s x1 x2 0
set_option maxHeartbeats 4000000 in
set_option maxRecDepth 100000 in
theorem c_M_lineOf {sc : List Int} {d : Nat} {s : px_Z} {x1 : Int} {x2 : Int} {out : Int × px_Z} (h : f_M_lineOf s x1 x2 = some out) : px_D sc (d + 2) 214 0 [(0, .inr (.inr 150)), (1, .inl (x1)), (2, .inl (x2))] [] (px_G1, s) (px_Qi out) := by
  unfold f_M_lineOf at h
  refine px_D_st 2 (ip1 := 2) (ls1 := [(3, .inl (0)), (0, .inr (.inr 150)), (1, .inl (x1)), (2, .inl (x2))]) (st1 := []) (h1 := (px_G1, s)) rfl ?_
  refine px_D_ls [(0, .inr (.inr 150)), (1, .inl (x1)), (2, .inl (x2)), (3, .inl (0))] rfl rfl (List.forall_mem_cons.mpr ⟨rfl, List.forall_mem_cons.mpr ⟨rfl, List.forall_mem_cons.mpr ⟨rfl, List.forall_mem_cons.mpr ⟨rfl, fun _ h => absurd h List.not_mem_nil⟩⟩⟩⟩) ?_
  refine cl_M_lineOf_2  px_big _ _ _ _ _ h

def f_M_asksWeek (s : px_Z) : Option (px_Z) := (f_M_homeSet (px_up s 174 3 (s 151 0)) ).bind (fun q1 => (f_M_onesOf (px_up s 174 3 (s 151 0)) q1).bind (fun q2 => if ((px_up (px_up (px_up s 174 3 (s 151 0)) 174 4 q2) 174 5 ((px_up (px_up s 174 3 (s 151 0)) 174 4 q2) 151 5)) 151 6) = (0) then some (px_up (px_up (px_up (px_up (px_up s 174 3 (s 151 0)) 174 4 q2) 174 5 ((px_up (px_up s 174 3 (s 151 0)) 174 4 q2) 151 5)) 174 6 0) 174 8 ((px_up (px_up (px_up (px_up s 174 3 (s 151 0)) 174 4 q2) 174 5 ((px_up (px_up s 174 3 (s 151 0)) 174 4 q2) 151 5)) 174 6 0) 151 4)) else (if 0 ≤ (px_wr (((px_up (px_up (px_up s 174 3 (s 151 0)) 174 4 q2) 174 5 ((px_up (px_up s 174 3 (s 151 0)) 174 4 q2) 151 5)) 151 6) - 1)) ∧ (px_wr (((px_up (px_up (px_up s 174 3 (s 151 0)) 174 4 q2) 174 5 ((px_up (px_up s 174 3 (s 151 0)) 174 4 q2) 151 5)) 151 6) - 1)) < 8 then some (px_up (px_up (px_up (px_up (px_up s 174 3 (s 151 0)) 174 4 q2) 174 5 ((px_up (px_up s 174 3 (s 151 0)) 174 4 q2) 151 5)) 174 6 ((px_up (px_up (px_up s 174 3 (s 151 0)) 174 4 q2) 174 5 ((px_up (px_up s 174 3 (s 151 0)) 174 4 q2) 151 5)) 154 (px_wr (((px_up (px_up (px_up s 174 3 (s 151 0)) 174 4 q2) 174 5 ((px_up (px_up s 174 3 (s 151 0)) 174 4 q2) 151 5)) 151 6) - 1)).toNat)) 174 8 ((px_up (px_up (px_up (px_up s 174 3 (s 151 0)) 174 4 q2) 174 5 ((px_up (px_up s 174 3 (s 151 0)) 174 4 q2) 151 5)) 174 6 ((px_up (px_up (px_up s 174 3 (s 151 0)) 174 4 q2) 174 5 ((px_up (px_up s 174 3 (s 151 0)) 174 4 q2) 151 5)) 154 (px_wr (((px_up (px_up (px_up s 174 3 (s 151 0)) 174 4 q2) 174 5 ((px_up (px_up s 174 3 (s 151 0)) 174 4 q2) 151 5)) 151 6) - 1)).toNat)) 151 4)) else none)))
set_option maxHeartbeats 4000000 in
set_option maxRecDepth 100000 in
theorem c_M_asksWeek {sc : List Int} {d : Nat} {s : px_Z} {out : px_Z} (h : f_M_asksWeek s  = some out) : px_D sc (d + 2) 216 0 [(0, .inr (.inr 150))] [] (px_G1, s) (px_Qv out) := by
  unfold f_M_asksWeek at h
  refine px_D_st 13 (ip1 := 13) (ls1 := [(0, .inr (.inr 150))]) (st1 := [.inr (.inr 150), .inr (.inr 150), .inl (4), .inr (.inr 174)]) (h1 := (px_G1, px_up s 174 3 (s 151 0))) rfl ?_
  refine px_D_call (as := [.inr (.inr 150)]) (rest := [.inr (.inr 150), .inl (4), .inr (.inr 174)]) rfl rfl rfl rfl ?_
  obtain ⟨q1, hq1, h⟩ := Option.bind_eq_some_iff.mp h
  refine px_D_mono (c_M_homeSet (d := d + 0) hq1) ?_
  rintro _ _ ⟨rfl, rfl⟩
  show px_D sc (d + 2) 216 14 [(0, .inr (.inr 150))] [.inl (q1), .inr (.inr 150), .inl (4), .inr (.inr 174)] (px_G1, px_up s 174 3 (s 151 0)) _
  refine px_D_call (as := [.inr (.inr 150), .inl (q1)]) (rest := [.inl (4), .inr (.inr 174)]) rfl rfl rfl rfl ?_
  obtain ⟨q2, hq2, h⟩ := Option.bind_eq_some_iff.mp h
  refine px_D_mono (c_M_onesOf (d := d + 1) hq2) ?_
  rintro _ _ ⟨rfl, rfl⟩
  show px_D sc (d + 2) 216 15 [(0, .inr (.inr 150))] [.inl (q2), .inl (4), .inr (.inr 174)] (px_G1, px_up s 174 3 (s 151 0)) _
  refine px_D_st 16 (ip1 := 31) (ls1 := [(0, .inr (.inr 150))]) (st1 := [.inl ((px_up (px_up (px_up s 174 3 (s 151 0)) 174 4 q2) 174 5 ((px_up (px_up s 174 3 (s 151 0)) 174 4 q2) 151 5)) 151 6), .inl (6), .inr (.inr 174)]) (h1 := (px_G1, px_up (px_up (px_up s 174 3 (s 151 0)) 174 4 q2) 174 5 ((px_up (px_up s 174 3 (s 151 0)) 174 4 q2) 151 5))) rfl ?_
  refine px_D_ifc rfl (fun hc => ?_) (fun hc => ?_)
  · have hc3 : ¬ (((px_up (px_up (px_up s 174 3 (s 151 0)) 174 4 q2) 174 5 ((px_up (px_up s 174 3 (s 151 0)) 174 4 q2) 151 5)) 151 6) = (0)) := of_decide_eq_true hc
    rw [if_neg hc3] at h
    refine px_D_st 8 (ip1 := 42) (ls1 := [(0, .inr (.inr 150))]) (st1 := [.inl (px_wr (((px_up (px_up (px_up s 174 3 (s 151 0)) 174 4 q2) 174 5 ((px_up (px_up s 174 3 (s 151 0)) 174 4 q2) 151 5)) 151 6) - 1)), .inr (.inr 154), .inl (6), .inr (.inr 174)]) (h1 := (px_G1, px_up (px_up (px_up s 174 3 (s 151 0)) 174 4 q2) 174 5 ((px_up (px_up s 174 3 (s 151 0)) 174 4 q2) 151 5))) rfl ?_
    by_cases hc4 : 0 ≤ (px_wr (((px_up (px_up (px_up s 174 3 (s 151 0)) 174 4 q2) 174 5 ((px_up (px_up s 174 3 (s 151 0)) 174 4 q2) 151 5)) 151 6) - 1)) ∧ (px_wr (((px_up (px_up (px_up s 174 3 (s 151 0)) 174 4 q2) 174 5 ((px_up (px_up s 174 3 (s 151 0)) 174 4 q2) 151 5)) 151 6) - 1)) < 8
    case neg => rw [if_neg hc4] at h; cases h
    rw [if_pos hc4] at h
    refine px_D_iald (k := 149) (n := 8) rfl rfl hc4 ?_
    refine px_D_st 9 (ip1 := 52) (ls1 := [(0, .inr (.inr 150))]) (st1 := []) (h1 := (px_G1, px_up (px_up (px_up (px_up (px_up s 174 3 (s 151 0)) 174 4 q2) 174 5 ((px_up (px_up s 174 3 (s 151 0)) 174 4 q2) 151 5)) 174 6 ((px_up (px_up (px_up s 174 3 (s 151 0)) 174 4 q2) 174 5 ((px_up (px_up s 174 3 (s 151 0)) 174 4 q2) 151 5)) 154 (px_wr (((px_up (px_up (px_up s 174 3 (s 151 0)) 174 4 q2) 174 5 ((px_up (px_up s 174 3 (s 151 0)) 174 4 q2) 151 5)) 151 6) - 1)).toNat)) 174 8 ((px_up (px_up (px_up (px_up s 174 3 (s 151 0)) 174 4 q2) 174 5 ((px_up (px_up s 174 3 (s 151 0)) 174 4 q2) 151 5)) 174 6 ((px_up (px_up (px_up s 174 3 (s 151 0)) 174 4 q2) 174 5 ((px_up (px_up s 174 3 (s 151 0)) 174 4 q2) 151 5)) 154 (px_wr (((px_up (px_up (px_up s 174 3 (s 151 0)) 174 4 q2) 174 5 ((px_up (px_up s 174 3 (s 151 0)) 174 4 q2) 151 5)) 151 6) - 1)).toNat)) 151 4))) rfl ?_
    cases h
    exact px_D_vret rfl ⟨rfl, rfl⟩
  · have hc3 : ((px_up (px_up (px_up s 174 3 (s 151 0)) 174 4 q2) 174 5 ((px_up (px_up s 174 3 (s 151 0)) 174 4 q2) 151 5)) 151 6) = (0) := Decidable.of_not_not (of_decide_eq_false hc)
    rw [if_pos hc3] at h
    refine px_D_st 11 (ip1 := 52) (ls1 := [(0, .inr (.inr 150))]) (st1 := []) (h1 := (px_G1, px_up (px_up (px_up (px_up (px_up s 174 3 (s 151 0)) 174 4 q2) 174 5 ((px_up (px_up s 174 3 (s 151 0)) 174 4 q2) 151 5)) 174 6 0) 174 8 ((px_up (px_up (px_up (px_up s 174 3 (s 151 0)) 174 4 q2) 174 5 ((px_up (px_up s 174 3 (s 151 0)) 174 4 q2) 151 5)) 174 6 0) 151 4))) rfl ?_
    cases h
    exact px_D_vret rfl ⟨rfl, rfl⟩

def f_M_asks (s : px_Z) (x1 : Int) : Option (px_Z) := if 0 ≤ (x1) ∧ (x1) < 8 then if 0 ≤ (px_wr (8 + x1)) ∧ (px_wr (8 + x1)) < 40 then if 0 ≤ (px_wr (16 + x1)) ∧ (px_wr (16 + x1)) < 40 then if ((px_up (px_up (px_up s 174 0 x1) 174 1 ((px_up s 174 0 x1) 154 x1.toNat)) 174 2 ((px_up (px_up s 174 0 x1) 174 1 ((px_up s 174 0 x1) 154 x1.toNat)) 151 (px_wr (8 + x1)).toNat)) 151 (px_wr (16 + x1)).toNat) = (2) then (f_M_asksWeek (px_up (px_up (px_up (px_up s 174 0 x1) 174 1 ((px_up s 174 0 x1) 154 x1.toNat)) 174 2 ((px_up (px_up s 174 0 x1) 174 1 ((px_up s 174 0 x1) 154 x1.toNat)) 151 (px_wr (8 + x1)).toNat)) 174 7 1) ).bind (fun q6 => some q6) else (f_M_asksWeek (px_up (px_up (px_up (px_up s 174 0 x1) 174 1 ((px_up s 174 0 x1) 154 x1.toNat)) 174 2 ((px_up (px_up s 174 0 x1) 174 1 ((px_up s 174 0 x1) 154 x1.toNat)) 151 (px_wr (8 + x1)).toNat)) 174 7 0) ).bind (fun q5 => some q5) else none else none else none
set_option maxHeartbeats 4000000 in
set_option maxRecDepth 100000 in
theorem c_M_asks {sc : List Int} {d : Nat} {s : px_Z} {x1 : Int} {out : px_Z} (h : f_M_asks s x1 = some out) : px_D sc (d + 3) 215 0 [(0, .inr (.inr 150)), (1, .inl (x1))] [] (px_G1, s) (px_Qv out) := by
  unfold f_M_asks at h
  refine px_D_st 11 (ip1 := 11) (ls1 := [(0, .inr (.inr 150)), (1, .inl (x1))]) (st1 := [.inl (x1), .inr (.inr 154), .inl (1), .inr (.inr 174)]) (h1 := (px_G1, px_up s 174 0 x1)) rfl ?_
  by_cases hc1 : 0 ≤ (x1) ∧ (x1) < 8
  case neg => rw [if_neg hc1] at h; cases h
  rw [if_pos hc1] at h
  refine px_D_iald (k := 149) (n := 8) rfl rfl hc1 ?_
  refine px_D_st 9 (ip1 := 21) (ls1 := [(0, .inr (.inr 150)), (1, .inl (x1))]) (st1 := [.inl (px_wr (8 + x1)), .inr (.inr 151), .inl (2), .inr (.inr 174)]) (h1 := (px_G1, px_up (px_up s 174 0 x1) 174 1 ((px_up s 174 0 x1) 154 x1.toNat))) rfl ?_
  by_cases hc2 : 0 ≤ (px_wr (8 + x1)) ∧ (px_wr (8 + x1)) < 40
  case neg => rw [if_neg hc2] at h; cases h
  rw [if_pos hc2] at h
  refine px_D_iald (k := 146) (n := 40) rfl rfl hc2 ?_
  refine px_D_st 9 (ip1 := 31) (ls1 := [(0, .inr (.inr 150)), (1, .inl (x1))]) (st1 := [.inl (px_wr (16 + x1)), .inr (.inr 151), .inl (7), .inr (.inr 174)]) (h1 := (px_G1, px_up (px_up (px_up s 174 0 x1) 174 1 ((px_up s 174 0 x1) 154 x1.toNat)) 174 2 ((px_up (px_up s 174 0 x1) 174 1 ((px_up s 174 0 x1) 154 x1.toNat)) 151 (px_wr (8 + x1)).toNat))) rfl ?_
  by_cases hc3 : 0 ≤ (px_wr (16 + x1)) ∧ (px_wr (16 + x1)) < 40
  case neg => rw [if_neg hc3] at h; cases h
  rw [if_pos hc3] at h
  refine px_D_iald (k := 146) (n := 40) rfl rfl hc3 ?_
  refine px_D_st 1 (ip1 := 33) (ls1 := [(0, .inr (.inr 150)), (1, .inl (x1))]) (st1 := [.inl (2), .inl ((px_up (px_up (px_up s 174 0 x1) 174 1 ((px_up s 174 0 x1) 154 x1.toNat)) 174 2 ((px_up (px_up s 174 0 x1) 174 1 ((px_up s 174 0 x1) 154 x1.toNat)) 151 (px_wr (8 + x1)).toNat)) 151 (px_wr (16 + x1)).toNat), .inl (7), .inr (.inr 174)]) (h1 := (px_G1, px_up (px_up (px_up s 174 0 x1) 174 1 ((px_up s 174 0 x1) 154 x1.toNat)) 174 2 ((px_up (px_up s 174 0 x1) 174 1 ((px_up s 174 0 x1) 154 x1.toNat)) 151 (px_wr (8 + x1)).toNat))) rfl ?_
  refine px_D_icmp rfl (fun hc => ?_) (fun hc => ?_)
  · have hc4 : ¬ (((px_up (px_up (px_up s 174 0 x1) 174 1 ((px_up s 174 0 x1) 154 x1.toNat)) 174 2 ((px_up (px_up s 174 0 x1) 174 1 ((px_up s 174 0 x1) 154 x1.toNat)) 151 (px_wr (8 + x1)).toNat)) 151 (px_wr (16 + x1)).toNat) = (2)) := of_decide_eq_true hc
    rw [if_neg hc4] at h
    refine px_D_st 3 (ip1 := 39) (ls1 := [(0, .inr (.inr 150)), (1, .inl (x1))]) (st1 := [.inr (.inr 150)]) (h1 := (px_G1, px_up (px_up (px_up (px_up s 174 0 x1) 174 1 ((px_up s 174 0 x1) 154 x1.toNat)) 174 2 ((px_up (px_up s 174 0 x1) 174 1 ((px_up s 174 0 x1) 154 x1.toNat)) 151 (px_wr (8 + x1)).toNat)) 174 7 0)) rfl ?_
    refine px_D_call (as := [.inr (.inr 150)]) (rest := []) rfl rfl rfl rfl ?_
    obtain ⟨q5, hq5, h⟩ := Option.bind_eq_some_iff.mp h
    refine px_D_mono (c_M_asksWeek (d := d + 0) hq5) ?_
    rintro _ _ ⟨rfl, rfl⟩
    show px_D sc (d + 3) 215 40 [(0, .inr (.inr 150)), (1, .inl (x1))] [] (px_G1, q5) _
    cases h
    exact px_D_vret rfl ⟨rfl, rfl⟩
  · have hc4 : ((px_up (px_up (px_up s 174 0 x1) 174 1 ((px_up s 174 0 x1) 154 x1.toNat)) 174 2 ((px_up (px_up s 174 0 x1) 174 1 ((px_up s 174 0 x1) 154 x1.toNat)) 151 (px_wr (8 + x1)).toNat)) 151 (px_wr (16 + x1)).toNat) = (2) := Decidable.of_not_not (of_decide_eq_false hc)
    rw [if_pos hc4] at h
    refine px_D_st 4 (ip1 := 39) (ls1 := [(0, .inr (.inr 150)), (1, .inl (x1))]) (st1 := [.inr (.inr 150)]) (h1 := (px_G1, px_up (px_up (px_up (px_up s 174 0 x1) 174 1 ((px_up s 174 0 x1) 154 x1.toNat)) 174 2 ((px_up (px_up s 174 0 x1) 174 1 ((px_up s 174 0 x1) 154 x1.toNat)) 151 (px_wr (8 + x1)).toNat)) 174 7 1)) rfl ?_
    refine px_D_call (as := [.inr (.inr 150)]) (rest := []) rfl rfl rfl rfl ?_
    obtain ⟨q6, hq6, h⟩ := Option.bind_eq_some_iff.mp h
    refine px_D_mono (c_M_asksWeek (d := d + 0) hq6) ?_
    rintro _ _ ⟨rfl, rfl⟩
    show px_D sc (d + 3) 215 40 [(0, .inr (.inr 150)), (1, .inl (x1))] [] (px_G1, q6) _
    cases h
    exact px_D_vret rfl ⟨rfl, rfl⟩

def f_M_asksNothing (s : px_Z) : Option (px_Z) := (f_M_asksWeek (px_up (px_up (px_up (px_up s 174 0 0) 174 1 0) 174 2 0) 174 7 0) ).bind (fun q1 => some q1)
set_option maxHeartbeats 4000000 in
set_option maxRecDepth 100000 in
theorem c_M_asksNothing {sc : List Int} {d : Nat} {s : px_Z} {out : px_Z} (h : f_M_asksNothing s  = some out) : px_D sc (d + 3) 217 0 [(0, .inr (.inr 150))] [] (px_G1, s) (px_Qv out) := by
  unfold f_M_asksNothing at h
  refine px_D_st 21 (ip1 := 21) (ls1 := [(0, .inr (.inr 150))]) (st1 := [.inr (.inr 150)]) (h1 := (px_G1, px_up (px_up (px_up (px_up s 174 0 0) 174 1 0) 174 2 0) 174 7 0)) rfl ?_
  refine px_D_call (as := [.inr (.inr 150)]) (rest := []) rfl rfl rfl rfl ?_
  obtain ⟨q1, hq1, h⟩ := Option.bind_eq_some_iff.mp h
  refine px_D_mono (c_M_asksWeek (d := d + 0) hq1) ?_
  rintro _ _ ⟨rfl, rfl⟩
  show px_D sc (d + 3) 217 22 [(0, .inr (.inr 150))] [] (px_G1, q1) _
  cases h
  exact px_D_vret rfl ⟨rfl, rfl⟩

def f_M_lawTells (s : px_Z) (x1 : Int) (x2 : Int) (x3 : Int) (x4 : Int) (x5 : Int) : Option (Int × px_Z) := (f_M_lineOf s x1 x2).bind (fun q1 => if (q1.1) = ((-1)) then some (f_M_held q1.2 x3 x4 x5, q1.2) else (if 0 ≤ (q1.1) ∧ (q1.1) < 48 then if 0 ≤ (q1.1) ∧ (q1.1) < 48 then (f_M_runs q1.2 x1 (q1.2 160 q1.1.toNat) (q1.2 161 q1.1.toNat)).bind (fun q5 => some (f_M_held q5.2 q5.1 x4 x5, q5.2)) else none else none))
set_option maxHeartbeats 4000000 in
set_option maxRecDepth 100000 in
theorem c_M_lawTells {sc : List Int} {d : Nat} {s : px_Z} {x1 : Int} {x2 : Int} {x3 : Int} {x4 : Int} {x5 : Int} {out : Int × px_Z} (h : f_M_lawTells s x1 x2 x3 x4 x5 = some out) : px_D sc (d + 3) 218 0 [(0, .inr (.inr 150)), (1, .inl (x1)), (2, .inl (x2)), (3, .inl (x3)), (4, .inl (x4)), (5, .inl (x5))] [] (px_G1, s) (px_Qi out) := by
  unfold f_M_lawTells at h
  refine px_D_st 3 (ip1 := 3) (ls1 := [(0, .inr (.inr 150)), (1, .inl (x1)), (2, .inl (x2)), (3, .inl (x3)), (4, .inl (x4)), (5, .inl (x5))]) (st1 := [.inl (x2), .inl (x1), .inr (.inr 150)]) (h1 := (px_G1, s)) rfl ?_
  refine px_D_call (as := [.inr (.inr 150), .inl (x1), .inl (x2)]) (rest := []) rfl rfl rfl rfl ?_
  obtain ⟨q1, hq1, h⟩ := Option.bind_eq_some_iff.mp h
  refine px_D_mono (c_M_lineOf (d := d + 0) hq1) ?_
  rintro _ _ ⟨rfl, rfl⟩
  show px_D sc (d + 3) 218 4 [(0, .inr (.inr 150)), (1, .inl (x1)), (2, .inl (x2)), (3, .inl (x3)), (4, .inl (x4)), (5, .inl (x5))] [.inl (q1.1)] (px_G1, q1.2) _
  refine px_D_st 4 (ip1 := 8) (ls1 := [(6, .inl (q1.1)), (0, .inr (.inr 150)), (1, .inl (x1)), (2, .inl (x2)), (3, .inl (x3)), (4, .inl (x4)), (5, .inl (x5))]) (st1 := [.inl ((-1)), .inl (q1.1), .inr (.inr 150)]) (h1 := (px_G1, q1.2)) rfl ?_
  refine px_D_icmp rfl (fun hc => ?_) (fun hc => ?_)
  · have hc2 : ¬ ((q1.1) = ((-1))) := of_decide_eq_true hc
    rw [if_neg hc2] at h
    refine px_D_st 5 (ip1 := 16) (ls1 := [(6, .inl (q1.1)), (0, .inr (.inr 150)), (1, .inl (x1)), (2, .inl (x2)), (3, .inl (x3)), (4, .inl (x4)), (5, .inl (x5))]) (st1 := [.inl (q1.1), .inr (.inr 160), .inl (x1), .inr (.inr 150), .inr (.inr 150)]) (h1 := (px_G1, q1.2)) rfl ?_
    by_cases hc3 : 0 ≤ (q1.1) ∧ (q1.1) < 48
    case neg => rw [if_neg hc3] at h; cases h
    rw [if_pos hc3] at h
    refine px_D_iald (k := 155) (n := 48) rfl rfl hc3 ?_
    refine px_D_st 3 (ip1 := 20) (ls1 := [(6, .inl (q1.1)), (0, .inr (.inr 150)), (1, .inl (x1)), (2, .inl (x2)), (3, .inl (x3)), (4, .inl (x4)), (5, .inl (x5))]) (st1 := [.inl (q1.1), .inr (.inr 161), .inl (q1.2 160 q1.1.toNat), .inl (x1), .inr (.inr 150), .inr (.inr 150)]) (h1 := (px_G1, q1.2)) rfl ?_
    by_cases hc4 : 0 ≤ (q1.1) ∧ (q1.1) < 48
    case neg => rw [if_neg hc4] at h; cases h
    rw [if_pos hc4] at h
    refine px_D_iald (k := 156) (n := 48) rfl rfl hc4 ?_
    refine px_D_call (as := [.inr (.inr 150), .inl (x1), .inl (q1.2 160 q1.1.toNat), .inl (q1.2 161 q1.1.toNat)]) (rest := [.inr (.inr 150)]) rfl rfl rfl rfl ?_
    obtain ⟨q5, hq5, h⟩ := Option.bind_eq_some_iff.mp h
    refine px_D_mono (c_M_runs (d := d + 1) hq5) ?_
    rintro _ _ ⟨rfl, rfl⟩
    show px_D sc (d + 3) 218 22 [(6, .inl (q1.1)), (0, .inr (.inr 150)), (1, .inl (x1)), (2, .inl (x2)), (3, .inl (x3)), (4, .inl (x4)), (5, .inl (x5))] [.inl (q5.1), .inr (.inr 150)] (px_G1, q5.2) _
    refine px_D_st 2 (ip1 := 24) (ls1 := [(6, .inl (q1.1)), (0, .inr (.inr 150)), (1, .inl (x1)), (2, .inl (x2)), (3, .inl (x3)), (4, .inl (x4)), (5, .inl (x5))]) (st1 := [.inl (x5), .inl (x4), .inl (q5.1), .inr (.inr 150)]) (h1 := (px_G1, q5.2)) rfl ?_
    refine px_D_call (as := [.inr (.inr 150), .inl (q5.1), .inl (x4), .inl (x5)]) (rest := []) rfl rfl rfl rfl ?_
    refine px_D_mono (c_M_held (d := d + 2) rfl) ?_
    rintro _ _ ⟨rfl, rfl⟩
    show px_D sc (d + 3) 218 25 [(6, .inl (q1.1)), (0, .inr (.inr 150)), (1, .inl (x1)), (2, .inl (x2)), (3, .inl (x3)), (4, .inl (x4)), (5, .inl (x5))] [.inl (f_M_held q5.2 q5.1 x4 x5)] (px_G1, q5.2) _
    cases h
    exact px_D_iret rfl rfl ⟨rfl, rfl⟩
  · have hc2 : (q1.1) = ((-1)) := Decidable.of_not_not (of_decide_eq_false hc)
    rw [if_pos hc2] at h
    refine px_D_st 4 (ip1 := 24) (ls1 := [(6, .inl (q1.1)), (0, .inr (.inr 150)), (1, .inl (x1)), (2, .inl (x2)), (3, .inl (x3)), (4, .inl (x4)), (5, .inl (x5))]) (st1 := [.inl (x5), .inl (x4), .inl (x3), .inr (.inr 150)]) (h1 := (px_G1, q1.2)) rfl ?_
    refine px_D_call (as := [.inr (.inr 150), .inl (x3), .inl (x4), .inl (x5)]) (rest := []) rfl rfl rfl rfl ?_
    refine px_D_mono (c_M_held (d := d + 2) rfl) ?_
    rintro _ _ ⟨rfl, rfl⟩
    show px_D sc (d + 3) 218 25 [(6, .inl (q1.1)), (0, .inr (.inr 150)), (1, .inl (x1)), (2, .inl (x2)), (3, .inl (x3)), (4, .inl (x4)), (5, .inl (x5))] [.inl (f_M_held q1.2 x3 x4 x5)] (px_G1, q1.2) _
    cases h
    exact px_D_iret rfl rfl ⟨rfl, rfl⟩

def f_M_priceAsked (s : px_Z) (x1 : Int) : Option (Int × px_Z) := if 0 ≤ (x1) ∧ (x1) < 8 then (f_M_lawTells s 0 0 (s 154 x1.toNat) 1 9999).bind (fun q2 => some (q2.1, q2.2)) else none
set_option maxHeartbeats 4000000 in
set_option maxRecDepth 100000 in
theorem c_M_priceAsked {sc : List Int} {d : Nat} {s : px_Z} {x1 : Int} {out : Int × px_Z} (h : f_M_priceAsked s x1 = some out) : px_D sc (d + 4) 219 0 [(0, .inr (.inr 150)), (1, .inl (x1))] [] (px_G1, s) (px_Qi out) := by
  unfold f_M_priceAsked at h
  refine px_D_st 6 (ip1 := 6) (ls1 := [(0, .inr (.inr 150)), (1, .inl (x1))]) (st1 := [.inl (x1), .inr (.inr 154), .inl (0), .inl (0), .inr (.inr 150)]) (h1 := (px_G1, s)) rfl ?_
  by_cases hc1 : 0 ≤ (x1) ∧ (x1) < 8
  case neg => rw [if_neg hc1] at h; cases h
  rw [if_pos hc1] at h
  refine px_D_iald (k := 149) (n := 8) rfl rfl hc1 ?_
  refine px_D_st 2 (ip1 := 9) (ls1 := [(0, .inr (.inr 150)), (1, .inl (x1))]) (st1 := [.inl (9999), .inl (1), .inl (s 154 x1.toNat), .inl (0), .inl (0), .inr (.inr 150)]) (h1 := (px_G1, s)) rfl ?_
  refine px_D_call (as := [.inr (.inr 150), .inl (0), .inl (0), .inl (s 154 x1.toNat), .inl (1), .inl (9999)]) (rest := []) rfl rfl rfl rfl ?_
  obtain ⟨q2, hq2, h⟩ := Option.bind_eq_some_iff.mp h
  refine px_D_mono (c_M_lawTells (d := d + 0) hq2) ?_
  rintro _ _ ⟨rfl, rfl⟩
  show px_D sc (d + 4) 219 10 [(0, .inr (.inr 150)), (1, .inl (x1))] [.inl (q2.1)] (px_G1, q2.2) _
  cases h
  exact px_D_iret rfl rfl ⟨rfl, rfl⟩
